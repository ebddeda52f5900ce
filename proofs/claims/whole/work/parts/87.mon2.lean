/-! on: the reference, whole -/
section PO5
variable {n h : Nat} {Q : pj_K} {I : Nat → Nat → Int32} {J : Nat → Nat → Int64} {W : Wk} {m B : Nat} {f : Nat → Nat}
theorem bs_s (p : Nat → Bool) (k : Nat) : bs p (k + 1) = bs p k ||| (match p k with | true => 2 ^ k | false => 0) := by
  show bs p k + (match p k with | true => 2 ^ k | false => 0) = _
  cases p k with
  | true =>
    show bs p k + 2 ^ k = bs p k ||| 2 ^ k
    rw [Nat.or_comm, Nat.add_comm, tp_or (bs_lt _ k)]
  | false => show bs p k + 0 = bs p k ||| 0; rw [Nat.or_zero, Nat.add_zero]
/-- PegCoatsModel.comesOn -/
theorem s263 (hh : 3 ≤ h) {t : Nat} (hT : tpM m f I) (hB : I 276 13 = nI B) (hW : WM W B I) (h7 : I 307 0 = nI t) (ht : t ≤ 40) (q1 : onOK W m f → ∀ I', pj_fr (mS 1) I I' → LM W 1 (onL W f) I' → I' 307 1 = 0 → Q (some (.int 1)) (zc n, I', J)) (q0 : ¬ onOK W m f → ∀ I', pj_fr (mS 1) I I' → Q (some (.int 0)) (zc n, I', J)) : pj_D h 263 [.ref 276, .int (nI m)] (zc n, I, J) Q := by
  have hW0 := hW
  obtain ⟨w1, w2, w0, w3, w4, w5⟩ := hW
  have h16 := hT.1
  have iB := vp_in_nI (n := B) w0 (by decide)
  have eB : (nI B).toNatClampNeg = B := nI_clamp (by omega)
  refine pj_ent (g := 2) hh (t := mt_263) rfl rfl (v263_0 (pj_D_le 2) I J _ ?_)
  have eS : (2 : Int32) + 2 * nI W.nc = nI (2 + 2 * W.nc) := by
    show nI 2 + nI 2 * nI W.nc = _
    rw [pk_mul, nI_add]
  have eL : nI (2 + 2 * W.nc) + 6 * nI W.nm + 1 = nI (2 + 2 * W.nc + 6 * W.nm + 1) := by
    show nI (2 + 2 * W.nc) + nI 6 * nI W.nm + 1 = _
    rw [pk_mul, nI_add, nI_1]
  rw [hB, eB, w3, w4, eS, eL, nI_eq (by omega) (by omega)]
  refine ⟨iB, iB, fun c => q0 (fun z => c z.1) I pj_fr_rf, fun c => ?_⟩
  have y0 := hT.2 0 (by omega)
  have y1 := hT.2 1 (by omega)
  rw [y0.1, y1.1, or8 y0.2 y1.2]
  refine pk_le (256 * f 0 + f 1) 999 (fun cy => ?_) (fun cy => q0 (fun z => by have : 256 * f 0 + f 1 ≤ 999 := z.2.2.1; omega) _ pj_fr_rf)
  have men : ∀ r k I', r + k = W.nm → pj_fr (mS 1) I I' → I' 299 1 = nI (onL W f).yr → I' 307 1 = 0 → (∀ j, j < W.nc → oc f j) → I' 300 1 = nI (bs (onL W f).bur W.nc) → (∀ j, j < W.nc → I' 301 (8 + j) = nI (f (3 + 2 * j))) → I' 306 1 = nI (bs (fun j => !(onL W f).the j) k) → (∀ j, j < k → mmn W f j I' ∧ om W f j ∧ od W f j) → f (m - 1) = chk f (m - 1) → pj_R (pj_D 2) ta mc_263 true Q 261 [some (.ref 276), none, some (.int (nI (2 + 2 * W.nc))), none, some (.int (nI k))] [] (zc n) I' J 0 0 := by
    intro r
    induction r with
    | zero =>
      intro k I' hk hf e9 e7 ho hS hc hG hm ck
      obtain rfl : k = W.nm := by omega
      have hW' := WM_m hf hW0
      refine v263_261 (pj_D_le 2) I' J _ _ ?_
      rw [(hf _ _ rfl).trans hB, eB, hW'.2.2.2.2.1]
      have b8 : bs (onL W f).bur W.nc < 256 := Nat.lt_of_lt_of_le (bs_lt _ _) (Nat.pow_le_pow_right (n := 2) (by decide) w1)
      have b7 : bs (fun j => !(onL W f).the j) W.nm < 128 := Nat.lt_of_lt_of_le (bs_lt _ _) (Nat.pow_le_pow_right (n := 2) (by decide) w2)
      refine ⟨iB, br_t (nI_le (Nat.le_refl _) (by omega)) (q1 ⟨c, ck, cy, ho, fun k hk => (hm k hk).2.1, fun k hk => (hm k hk).2.2⟩ I' hf ⟨e9, ⟨_, hS, b8, fun k hk => ?_⟩, ⟨_, hG, b7, fun k hk => ?_⟩, fun k hk => hc k hk, fun k hk => (hm k hk).1⟩ e7)⟩
      · rw [bs_bit, decide_eq_true hk, Bool.true_and]
      · rw [bs_bit, decide_eq_true hk, Bool.true_and]
    | succ r ih =>
      intro k I' hk hf e9 e7 ho hS hc hG hm ck
      have hkm : k < W.nm := by omega
      have hW' := WM_m hf hW0
      have hB' := (hf 276 13 rfl).trans hB
      have e6 : nI (2 + 2 * W.nc) + 6 * nI k = nI (2 + 2 * W.nc + 6 * k) := by
        show nI (2 + 2 * W.nc) + nI 6 * nI k = _
        rw [pk_mul, nI_add]
      have b8 : bs (onL W f).bur W.nc < 256 := Nat.lt_of_lt_of_le (bs_lt _ _) (Nat.pow_le_pow_right (n := 2) (by decide) w1)
      have b7 : bs (fun j => !(onL W f).the j) k < 128 := Nat.lt_of_lt_of_le (bs_lt _ _) (Nat.pow_le_pow_right (n := 2) (by decide) (show k ≤ 7 by omega))
      refine v263_261 (pj_D_le 2) I' J _ _ ?_
      rw [hB', eB, hW'.2.2.2.2.1, e6, nI_1]
      refine ⟨iB, br_f (nI_ge hkm (by omega)) (s264 (Nat.le_refl 2) (tpM_m hf hT) hB' hW' hS b8 (fun j hj => by rw [bs_bit, decide_eq_true hj, Bool.true_and]) hG b7 hkm (by omega) (fun j hj => ⟨(hm j hj).1.2.2.1, (hm j hj).2.1⟩) (fun ok dd I2 f2 o2 s2 g2 => kI_i ⟨fun _ => ?_, fun z => absurd z (by decide)⟩) (fun no I2 f2 => kI_i ⟨fun z => absurd rfl z, fun _ => q0 (fun z => no ⟨z.2.2.2.2.1 k hkm, z.2.2.2.2.2 k hkm⟩) I2 (pj_fr_tr hf f2)⟩))⟩
      refine ih (k + 1) I2 (by omega) (pj_fr_tr hf f2) ((o2 _ _ (by omega)).trans e9) ((o2 _ _ (by omega)).trans e7) ho ((o2 _ _ (by omega)).trans hS) (fun j hj => (o2 _ _ (by omega)).trans (hc j hj)) ?_ (fun j hj => ?_) ck
      · rw [g2, bs_s]
        cases (onL W f).the k <;> rfl
      · rcases Nat.lt_or_ge j k with z | z
        · obtain ⟨⟨p1, p2, p3, p4⟩, p6⟩ := hm j z
          exact ⟨⟨(o2 _ _ (Or.inr ⟨by decide, by omega⟩)).trans p1, (o2 _ _ (Or.inr ⟨by decide, by omega⟩)).trans p2, (o2 _ _ (Or.inr ⟨by decide, by omega⟩)).trans p3, (o2 _ _ (Or.inr ⟨by decide, by omega⟩)).trans p4⟩, p6⟩
        · obtain rfl : j = k := by omega
          exact ⟨s2, ok, dd⟩
  have coats : ∀ r k I', r + k = W.nc → pj_fr (mS 1) I I' → I' 299 1 = nI (onL W f).yr → I' 307 1 = 0 → (∀ j, j < k → oc f j) → I' 300 1 = nI (bs (onL W f).bur k) → (∀ j, j < k → I' 301 (8 + j) = nI (f (3 + 2 * j))) → I' 306 1 = nI 0 → f (m - 1) = chk f (m - 1) → pj_R (pj_D 2) ta mc_263 true Q 161 [some (.ref 276), none, some (.int (nI (2 + 2 * W.nc))), none, some (.int (nI k))] [] (zc n) I' J 0 0 := by
    intro r
    induction r with
    | zero =>
      intro k I' hk hf e9 e7 ho hS hc hG ck
      obtain rfl : k = W.nc := by omega
      have hW' := WM_m hf hW0
      refine v263_161 (pj_D_le 2) I' J _ _ ?_
      rw [(hf _ _ rfl).trans hB, eB, hW'.2.2.2.1]
      exact ⟨iB, br_t (nI_le (Nat.le_refl _) (by omega)) (men W.nm 0 I' (by omega) hf e9 e7 ho hS hc hG (fun j hj => by omega) ck)⟩
    | succ r ih =>
      intro k I' hk hf e9 e7 ho hS hc hG ck
      have hkc : k < W.nc := by omega
      have hW' := WM_m hf hW0
      have hT' := tpM_m hf hT
      have e2 : (2 : Int32) + 2 * nI k = nI (2 + 2 * k) := by
        show nI 2 + nI 2 * nI k = _
        rw [pk_mul, nI_add]
      have e3 : (3 : Int32) + 2 * nI k = nI (3 + 2 * k) := by
        show nI 3 + nI 2 * nI k = _
        rw [pk_mul, nI_add]
      have e8 : (8 : Int32) + nI k = nI (8 + k) := nI_add 8 k
      have b2 := hT'.2 (2 + 2 * k) (by omega)
      have b3 := hT'.2 (3 + 2 * k) (by omega)
      refine v263_161 (pj_D_le 2) I' J _ _ ?_
      rw [(hf _ _ rfl).trans hB, eB, hW'.2.2.2.1, e2, e3, e8, nI_1, nI_clamp (n := 2 + 2 * k) (by omega), nI_clamp (n := 3 + 2 * k) (by omega), nI_clamp (n := 8 + k) (by omega), b2.1, b3.1, hS]
      have i2 := pk_in (x := nI (2 + 2 * k)) (2 + 2 * k) 1800 (by omega)
      have i3 := pk_in (x := nI (3 + 2 * k)) (3 + 2 * k) 1800 (by omega)
      refine ⟨iB, br_f (nI_ge hkc (by omega)) ⟨i2, pk_lt 1 (f (2 + 2 * k)) (fun d => q0 (fun z => by have := (z.2.2.2.1 k hkc).1; omega) I' hf) (fun d => ⟨i3, pk_le (f (3 + 2 * k)) 99 (fun d2 => ⟨i2, i3, pk_in (8 + k) 176 (by omega), ?_⟩) (fun d2 => q0 (fun z => by have := (z.2.2.2.1 k hkc).2; omega) I' hf)⟩)⟩⟩
      have sh : nI (f (2 + 2 * k)) <<< (nI k &&& 31) = nI (match (onL W f).bur k with | true => 2 ^ k | false => 0) := by
        have eb : (onL W f).bur k = decide (f (2 + 2 * k) = 1) := rfl
        rw [eb]
        rcases Nat.eq_zero_or_pos (f (2 + 2 * k)) with z | z
        · rw [z, pk_shlN (nI k &&& 31) k (sh_k k (by omega)) (by omega), Nat.zero_mul]
          rfl
        · have z1 : f (2 + 2 * k) = 1 := by omega
          rw [z1]
          exact sh_1 (by omega)
      rw [sh, nb_or, ← bs_s]
      generalize hX : pj_u (pj_u I' 300 1 (nI (bs (onL W f).bur (k + 1)))) 301 (8 + k) (nI (f (3 + 2 * k))) = X
      have xo : ∀ c j, c ≠ 300 → (c ≠ 301 ∨ j ≠ 8 + k) → X c j = I' c j := fun c j h1 h2 => by
        rw [← hX]
        rcases h2 with z | z
        · exact (pj_u_n z).trans (pj_u_n h1)
        · exact (pj_u_j z).trans (pj_u_n h1)
      have fX : pj_fr (mS 1) I X := by
        rw [← hX]
        exact pj_fr_u (pj_fr_u hf rfl) (rg_t (by omega) (by omega))
      refine ih (k + 1) X (by omega) fX ((xo _ _ (by decide) (by omega)).trans e9) ((xo _ _ (by decide) (by omega)).trans e7) (fun j hj => ?_) ?_ (fun j hj => ?_) ((xo _ _ (by decide) (by omega)).trans hG) ck
      · rcases Nat.lt_or_ge j k with z | z
        · exact ho j z
        · obtain rfl : j = k := by omega
          exact ⟨d, d2⟩
      · rw [← hX, pj_u_n (by decide), pj_u_e]
      · rcases Nat.lt_or_ge j k with z | z
        · exact (xo _ _ (by decide) (by omega)).trans (hc j z)
        · obtain rfl : j = k := by omega
          rw [← hX, pj_u_e]
  suffices check : ∀ r k, r + k = m - 1 → pj_R (pj_D 2) ta mc_263 true Q 65 [some (.ref 276), some (.int (nI m)), some (.int (nI (2 + 2 * W.nc))), some (.int (nI (chk f k))), some (.int (nI k))] [] (zc n) I J 0 0 from check (m - 1) 0 (by omega)
  intro r
  induction r with
  | zero =>
    intro k hk
    obtain rfl : k = m - 1 := by omega
    refine v263_65 (pj_D_le 2) I J _ _ _ _ ?_
    have cl := chk_lt f (m - 1)
    have bm := hT.2 (m - 1) (by omega)
    rw [su_1 (by omega), nI_clamp (n := m - 1) (by omega), bm.1, nI_eq (by omega) (by omega)]
    refine br_t (nI_le (Nat.le_refl _) (by omega)) ⟨pk_in (m - 1) 1800 (by omega), fun ck => ?_, fun ck => q0 (fun z => ck z.2.1) I pj_fr_rf⟩
    refine s204 (by decide) (v := 1) (w := 0) (by decide) (by decide) (by decide) h7 ht (fun I1 hc => kV_i ?_)
    have f1 : pj_fr (mS 1) I I1 := hc.2.2.2.2.2.2.2.2.2.2
    have hT1 := tpM_m f1 hT
    rw [(hT1.2 0 (by omega)).1, (hT1.2 1 (by omega)).1, or8 y0.2 y1.2]
    exact coats W.nc 0 _ (by omega) (pj_fr_u (pj_fr_u (pj_fr_u (pj_fr_u f1 rfl) rfl) rfl) rfl) rfl rfl (fun j hj => by omega) rfl (fun j hj => by omega) rfl ck
  | succ r ih =>
    intro k hk
    refine v263_65 (pj_D_le 2) I J _ _ _ _ ?_
    have bm := hT.2 k (by omega)
    rw [su_1 (by omega), nI_clamp (n := k) (by omega), bm.1, ck_step (chk_lt f k) bm.2, nI_1]
    exact br_f (nI_ge (by omega) (by omega)) ⟨pk_in k 1800 (by omega), ih (k + 1) (by omega)⟩
end PO5
section PO6
variable {n h : Nat} {Q : pj_K} {I : Nat → Nat → Int32} {J : Nat → Nat → Int64} {A : Ab}
theorem InvM_clr (hA : AV A) (hI : InvM A I J) : InvM A.clr (pj_u I 276 1 0) J :=
  InvM_tp hA hI (fun c j h1 h2 _ => by rcases h2 with z | z; exact pj_u_n z; exact pj_u_j z) ⟨Nat.zero_le _, pj_u_e, fun k hk => absurd hk (Nat.not_lt_zero _)⟩
/-- PegCoatsModel.on -/
theorem m262 (hh : 4 ≤ h) (hA : AV A) (hI : InvM A I J) (q : ∀ I' J', mF I I' → InvM (onR A).1 I' J' → Q (some (.int (onR A).2)) (zc n, I', J')) : pj_D h 262 [.ref 276] (zc n, I, J) Q := by
  have h8 := hA.2.1
  have h7 := hA.2.2.1
  refine pj_ent (g := 3) hh (t := mt_262) rfl rfl (v262_0 (pj_D_le 3) I J ?_)
  have hI1 := InvM_clr hA hI
  have f1 : mF I (pj_u I 276 1 0) := mF_u (by decide) (fun _ _ _ => rfl)
  have t1 : tpM A.tp.1 A.tp.2 (pj_u I 276 1 0) := ⟨hI.1.1, fun k hk => ⟨(pj_u_n (by decide)).trans (hI.1.2.2 k hk).1, (hI.1.2.2 k hk).2⟩⟩
  rw [hI.1.2.1]
  generalize pj_u I 276 1 0 = I1 at hI1 f1 t1
  obtain ⟨B, b1, b2⟩ := hI1.2.1
  unfold onR at q
  have lm : ∀ {I2 : Nat → Nat → Int32}, pj_fr (mS 1) I1 I2 → mF I1 I2 := fun hf c j hc => hf c j (mS_f (by omega))
  refine s263 (Nat.le_refl 3) (W := A.W) t1 b1 b2.1 hI1.2.2.2.1.1 (tld_le _).2 (fun ok I2 f2 L2 e7 => kI_i ⟨fun _ => ?_, fun z => absurd z (by decide)⟩) (fun no I2 f2 => kI_i ⟨fun z => absurd rfl z, fun _ => ?_⟩)
  · rw [if_pos ok] at q
    have hI2 : InvM A.clr I2 J := InvM_q (AV_sT hA) (pj_fr_w f2 (fun c j hc => mS_q hc)) pj_fr_rf hI1
    refine s204 (by decide) (v := 0) (w := 1) (m := 0) (by decide) (by decide) (by decide) e7 (by decide) (fun I3 hc => kV_i ?_)
    have f3 := hc.2.2.2.2.2.2.2.2.2.2
    have L3 := LM_cp h8 h7 hc L2
    have k3 : I3 307 0 = 0 := hc.2.2.2.1.trans e7
    generalize hX : pj_u I3 276 53 0 = X
    have x : ∀ c j, c ≠ 276 ∨ j ≠ 53 → X c j = I3 c j := fun c j hcj => by
      rw [← hX]
      rcases hcj with z | z
      · exact pj_u_n z
      · exact pj_u_j z
    have g : ∀ c j, (c < 299 ∨ 308 < c) → (c ≠ 276 ∨ j ≠ 53) → X c j = I2 c j := fun c j h1 h2 => (x c j h2).trans (f3 c j (mS_f h1))
    obtain ⟨u, c1, c2, c3, c4⟩ := hI2.2.2.2.2.1
    refine q X J (mF_tr (mF_tr f1 (lm f2)) (fun c j hc => g c j (by omega) (by omega))) (InvM_ex (A' := A.onA) hI2 rfl (Or.inl ⟨rfl, g _ _ (by omega) (by omega), fun j => g _ _ (by omega) (by omega)⟩) ⟨g _ _ (by omega) (by omega), fun c j h1 h2 => g c j (by omega) (by omega), fun c j _ _ => rfl⟩ (LM_x h8 h7 (v := 1) (by decide) (fun c j _ _ _ => x c j (by omega)) L3) ⟨(x _ _ (by decide)).trans k3, fun i hi => absurd hi (Nat.not_lt_zero _)⟩ ⟨u, c1, (g _ _ (by omega) (by omega)).trans c2, ?_, fun i hi => absurd hi (Nat.not_lt_zero _)⟩ (Or.inl ⟨rfl, fun j => g _ _ (by omega) (by omega)⟩) (Or.inl ⟨rfl, rfl⟩) (Or.inl ⟨rfl, g _ _ (by omega) (by omega), g _ _ (by omega) (by omega)⟩) (Or.inl ⟨rfl, g _ _ (by omega) (by omega), fun c j h1 h2 => g c j (by omega) (by omega)⟩) (Or.inl ⟨rfl, g _ _ (by omega) (by omega), fun j => g _ _ (by omega) (by omega)⟩))
    rw [← hX, pj_u_e]; rfl
  · rw [if_neg no] at q
    have hI2 : InvM A.clr I2 J := InvM_q (AV_sT hA) (pj_fr_w f2 (fun c j hc => mS_q hc)) pj_fr_rf hI1
    exact m160 (by decide) (k := 5) (by decide) (AV_sT hA) hI2 (fun I3 f3 hI3 => kI_i ⟨fun _ => q I3 J (mF_tr (mF_tr f1 (lm f2)) f3) hI3, fun z => absurd (by decide) z⟩)
end PO6
