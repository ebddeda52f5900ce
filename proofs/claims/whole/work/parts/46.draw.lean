/-! draws -/
theorem lN_tI {a : Nat} (h : a < 2 ^ 63) : (lN a).toInt = (a : Int) := lg_ofNat_toInt h
theorem lN_dv {a d : Nat} (ha : a < 2 ^ 63) (h0 : 0 < d) (hd : d < 2 ^ 63) : lN a / lN d = lN (a / d) := by
  apply Int64.toInt_inj.mp
  rw [lg_ldiv_nonneg (by rw [lN_tI ha]; omega) (by rw [lN_tI hd]; omega), lN_tI ha, lN_tI hd, lN_tI (Nat.lt_of_le_of_lt (Nat.div_le_self a d) ha)]
  first | rfl | exact (Int.natCast_ediv _ _).symm
theorem lN_rm {a d : Nat} (ha : a < 2 ^ 63) (h0 : 0 < d) (hd : d < 2 ^ 63) : lN a - lN a / lN d * lN d = lN (a % d) := by
  rw [lN_dv ha h0 hd, lN_mul, lN_sub (Nat.div_mul_le_self a d)]
  exact congrArg lN (by have := Nat.div_add_mod' a d; omega)
theorem lN_mask {a : Nat} (ha : a < 2 ^ 63) : lN a &&& 2147483647 = lN (a % 2 ^ 31) := by
  apply Int64.toBitVec_inj.mp
  rw [Int64.toBitVec_and]
  show BitVec.ofNat 64 a &&& BitVec.ofNat 64 2147483647 = BitVec.ofNat 64 (a % 2 ^ 31)
  apply BitVec.eq_of_toNat_eq
  rw [BitVec.toNat_and, BitVec.toNat_ofNat, BitVec.toNat_ofNat, BitVec.toNat_ofNat, Nat.mod_eq_of_lt (show a < 2 ^ 64 by omega), Nat.mod_eq_of_lt (show 2147483647 < 2 ^ 64 by decide)]
  have h1 : a % 2 ^ 31 < 2 ^ 64 := Nat.lt_of_lt_of_le (Nat.mod_lt _ (by decide)) (by decide)
  rw [Nat.mod_eq_of_lt h1]
  exact Nat.and_two_pow_sub_one_eq_mod a 31
/-- the next draw -/
def nxd (s : Nat) : Nat := (1103515245 * s + 12345) % 2147483648
theorem nxd_lt (s : Nat) : nxd s < 2 ^ 31 := Nat.mod_lt _ (by decide)
section PDw
variable {n h : Nat} {Q : pj_K} {I : Nat → Nat → Int32} {J : Nat → Nat → Int64}
theorem dr_big {s : Nat} (hs : s < 2 ^ 31) : 1103515245 * s + 12345 < 2 ^ 63 := by omega
/-- PegCoats.draw -/
theorem s146 (hh : 1 ≤ h) {s m : Nat} (hs : I 2 15 = nI s) (hs2 : s < 2 ^ 31) (hm : 0 < m) (hm2 : m < 2 ^ 31) (q : Q (some (.int (nI (nxd s / 64 % m)))) (zc n, pj_u I 2 15 (nI (nxd s)), J)) : pj_D h 146 [.ref 2, .int (nI m)] (zc n, I, J) Q := by
  refine pj_ent (g := 0) hh (t := mt_146) rfl rfl (v146_0 (pj_D_le 0) I J _ ?_)
  have e : ((1103515245 * Int32.toInt64 (I 2 15) + 12345) &&& 2147483647 : Int64).toInt32 = nI (nxd s) := by
    rw [hs, nI_l hs2]
    show ((lN 1103515245 * lN s + lN 12345) &&& 2147483647).toInt32 = _
    rw [lN_mul, lN_add, lN_mask (dr_big hs2), lN_i]
    rfl
  rw [e]
  have h64 : nI (nxd s) / 64 = nI (nxd s / 64) := pk_div (d := 64) (nxd_lt s) (by decide) (by decide)
  rw [h64, pk_rem (Nat.lt_of_le_of_lt (Nat.div_le_self _ _) (nxd_lt s)) hm hm2]
  exact pk_le 1 m (fun _ => ⟨nI_ne0 hm hm2, q⟩) (fun c => by omega)
/-- PegCoatsModel.draw -/
theorem s252 (hh : 1 ≤ h) {s m : Nat} (hs : J 276 54 = lN s) (hs2 : s < 2 ^ 31) (hm : 0 < m) (hm2 : m < 2 ^ 31) (q : Q (some (.int (nI (nxd s / 64 % m)))) (zc n, I, pj_u J 276 54 (lN (nxd s)))) : pj_D h 252 [.ref 276, .int (nI m)] (zc n, I, J) Q := by
  refine pj_ent (g := 0) hh (t := mt_252) rfl rfl (v252_0 (pj_D_le 0) I J _ ?_)
  have e : (1103515245 * J 276 54 + 12345) - (1103515245 * J 276 54 + 12345) / 2147483648 * 2147483648 = lN (nxd s) := by
    rw [hs]
    show (lN 1103515245 * lN s + lN 12345) - (lN 1103515245 * lN s + lN 12345) / lN 2147483648 * lN 2147483648 = _
    rw [lN_mul, lN_add, lN_rm (dr_big hs2) (by decide) (by decide)]
    rfl
  have h3 : nxd s < 2 ^ 63 := Nat.lt_trans (nxd_lt s) (by decide)
  have h64 : lN (nxd s) / 64 = lN (nxd s / 64) := lN_dv (d := 64) h3 (by decide) (by decide)
  rw [e, h64, nI_l hm2, lN_rm (Nat.lt_of_le_of_lt (Nat.div_le_self _ _) h3) hm (by omega), lN_i]
  refine ⟨fun z => ?_, q⟩
  have := (lN_eq (b := 0) hm2 (by decide)).mp z
  omega
end PDw
