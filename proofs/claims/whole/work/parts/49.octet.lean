/-! bytes of the picture -/
section POc
variable {n h : Nat} {Q : pj_K} {I : Nat → Nat → Int32} {J : Nat → Nat → Int64}
/-- PegCoats.octet -/
theorem s155 (hh : 1 ≤ h) {m : Nat} {p : Int32} (hm : I 272 2 = nI m) (hm2 : m ≤ 61) (q1 : ∀ k, k < m → p = nI k → Q (some (.int (I 273 k))) (zc n, I, J)) (q2 : (∀ k, k < m → p ≠ nI k) → Q (some (.int (-1))) (zc n, I, J)) : pj_D h 155 [.ref 2, .int p] (zc n, I, J) Q := by
  refine pj_ent (g := 0) hh (t := mt_155) rfl rfl (v155_0 (pj_D_le 0) I J _ ?_)
  rw [hm]
  refine ⟨fun c => q2 (fun k hk e => ?_), fun c => ?_⟩
  · rw [e] at c
    exact nI_pos (by omega) c
  · obtain ⟨j, hj, rfl⟩ := nI_of c
    rw [nI_clamp hj]
    refine pk_lt j m (fun c2 => ⟨pk_in j 61 (by omega), q1 j c2 rfl⟩) (fun c2 => q2 (fun k hk e => ?_))
    have := (nI_eq hj (by omega)).mp e
    omega
/-- PegCoatsModel.octet -/
theorem s261 (hh : 2 ≤ h) {m : Nat} {p : Int32} (hm : I 276 66 = nI m) (hm2 : m ≤ 61) (q1 : ∀ k, k < m → p = nI k → Q (some (.int (I 318 k))) (zc n, I, J)) (q2 : (∀ k, k < m → p ≠ nI k) → Q (some (.int (-1))) (zc n, I, J)) : pj_D h 261 [.ref 276, .int p] (zc n, I, J) Q := by
  refine pj_ent (g := 1) hh (t := mt_261) rfl rfl (v261_0 (pj_D_le 1) I J _ ?_)
  rw [hm]
  refine s179 (Nat.le_refl 1) (kI_i ?_)
  by_cases c : (0 : Int32) ≤ p ∧ p ≤ nI m - 1
  · rw [if_pos c]
    refine ⟨fun z => absurd z (by decide), fun _ => ?_⟩
    obtain ⟨j, hj, rfl⟩ := nI_of (Int32.not_lt.mpr c.1)
    have hjm : j < m := by
      rcases Nat.eq_zero_or_pos m with z | z
      · exfalso
        have c2 := c.2
        rw [z] at c2
        have c3 : nI j ≤ (-1 : Int32) := c2
        have : (0 : Int32) ≤ -1 := Int32.le_trans c.1 c3
        exact absurd this (by decide)
      · have c2 := c.2
        rw [su_1 z] at c2
        have := (nI_leI hj (by omega)).mp c2
        omega
    rw [nI_clamp hj]
    exact ⟨pk_in j 70 (by omega), q1 j hjm rfl⟩
  · rw [if_neg c]
    refine ⟨fun _ => q2 (fun k hk e => c ?_), fun z => absurd rfl z⟩
    rw [e, su_1 (by omega)]
    exact ⟨nI_pos' (by omega), nI_le (by omega) (by omega)⟩
/-- PegCoatsModel.writes -/
theorem s260 (hh : 1 ≤ h) {m b : Nat} {p : Int32} (hm : I 276 66 = nI m) (hm2 : m < 70) (hp : p &&& 255 = nI b) (q : Q none (zc n, pj_u (pj_u I 318 m (nI b)) 276 66 (nI (m + 1)), J)) : pj_D h 260 [.ref 276, .int p] (zc n, I, J) Q := by
  refine pj_ent (g := 0) hh (t := mt_260) rfl rfl (v260_0 (pj_D_le 0) I J _ ?_)
  rw [hm, nI_clamp (by omega), hp, nI_1]
  exact ⟨pk_in m 70 hm2, q⟩
end POc
