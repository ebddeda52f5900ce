/-! see -/
def rwF (f : Nat → Nat) : Nat → Nat × Nat × Option Nat := fun k => (f (3 * k), f (3 * k + 1), if f (3 * k + 2) = 255 then none else some (f (3 * k + 2)))
def seO (W : Wk) (f : Nat → Nat) (k : Nat) : Prop := f (3 * k) ≤ 30 ∧ f (3 * k + 1) < W.nm ∧ (f (3 * k + 2) = 255 ∨ f (3 * k + 2) < W.nc)
def seOK (W : Wk) (m : Nat) (f : Nat → Nat) : Prop := 1 ≤ m / 3 ∧ m / 3 ≤ 16 ∧ m / 3 * 3 = m ∧ ∀ k, k < m / 3 → seO W f k
noncomputable def seeR (A : Ab) : Ab × Int32 := @ite (Ab × Int32) (seOK A.W A.tp.1 A.tp.2) (Classical.propDecidable _) (A.clr.sR (A.tp.1 / 3, rwF A.tp.2), nI (A.tp.1 / 3)) (A.clr.ref 5, -1)
theorem AV_seeR {A : Ab} (hA : AV A) : AV (seeR A).1 := by
  unfold seeR
  by_cases c : seOK A.W A.tp.1 A.tp.2
  · rw [if_pos c]
    obtain ⟨h1, h2, h3, h4, h5, h6, h7, h8, h9, h10, h11, h12, h13⟩ := hA
    obtain ⟨c1, c2, c3, c4⟩ := c
    refine ⟨h1, h2, h3, h4, h5, h6, h7, h8, h9, h10, c2, fun i hi => ?_, h13⟩
    obtain ⟨d1, d2, d3⟩ := c4 i hi
    refine ⟨d1, d2, fun x e => ?_⟩
    have e : (if A.tp.2 (3 * i + 2) = 255 then none else some (A.tp.2 (3 * i + 2))) = some x := e
    by_cases z : A.tp.2 (3 * i + 2) = 255
    · rw [if_pos z] at e; cases e
    · rw [if_neg z] at e
      cases e
      exact d3.resolve_left z
  · rw [if_neg c]
    exact hA
section PSee
variable {n h : Nat} {Q : pj_K} {I : Nat → Nat → Int32} {J : Nat → Nat → Int64} {A : Ab}
/-- PegCoats.see -/
theorem c139 (hh : 3 ≤ h) (hA : AV A) (hI : InvC A I) (q : ∀ I', cF I I' → InvC (seeR A).1 I' → Q (some (.int (seeR A).2)) (zc n, I', J)) : pj_D h 139 [.ref 2] (zc n, I, J) Q := by
  have h7 := hA.2.2.1
  have h8 := hA.2.1
  have hT := hI.1
  have h16 := hT.1
  refine pj_ent (g := 2) hh (t := mt_139) rfl rfl (v139_0 (pj_D_le 2) I J ?_)
  unfold seeR at q
  have fail : ¬ seOK A.W A.tp.1 A.tp.2 → (kI n fun v1 I1 J1 => pj_D 2 86 [.ref 3] (zc n, I1, J1) (kV n fun I2 J2 => ((v1 = 0 → pj_D 2 112 [.ref 2, .int 5] (zc n, I2, J2) (kI n fun v3 I3 J3 => Q (some (.int v3)) (zc n, I3, J3))) ∧ (¬ v1 = 0 → Q (some (.int (I2 251 4))) (zc n, I2, J2))))) (some (.int 0)) (zc n, I, J) := fun no => by
    rw [if_neg no] at q
    exact kI_i (s86 (by decide) (kV_i ⟨fun _ => c112 (by decide) (k := 5) (by decide) (InvC_clr hI) (fun I3 f3 hI3 => kI_i (q I3 (cF_tr (cF_u (by decide) (fun _ _ _ => rfl)) f3) hI3)), fun z => absurd rfl z⟩))
  refine pj_ent (g := 1) (Nat.le_refl 2) (t := mt_89) rfl rfl (v89_0 (pj_D_le 1) I J ?_)
  have ed : nI A.tp.1 / 3 = nI (A.tp.1 / 3) := pk_div (d := 3) (by omega) (by decide) (by decide)
  have em : nI (A.tp.1 / 3) * 3 = nI (A.tp.1 / 3 * 3) := pk_mul _ 3
  rw [hT.2.1, ed, em, nI_eq (by omega) (by omega)]
  generalize hr : A.tp.1 / 3 = r
  refine pk_lt r 1 (fun c => fail (fun z => by have := z.1; omega)) (fun c1 => pk_lt 16 r (fun c => fail (fun z => by have := z.2.1; omega)) (fun c2 => ⟨fun c3 => ?_, fun c => fail (fun z => c (by rw [← hr]; exact z.2.2.1))⟩))
  have e5 : I 5 12 = nI A.W.nc := hI.2.1.1.2.2.1
  have e6 : I 5 13 = nI A.W.nm := hI.2.1.1.2.2.2.1
  have rows : (∀ k, k < r → seO A.W A.tp.2 k) → ∀ s k I', s + k = 3 * r → (∀ c j, c ≠ 260 → I' c j = I c j) → (∀ j, j < k → I' 260 j = nI (A.tp.2 j)) → pj_R (pj_D 1) ta mc_89 true (kI n fun v1 I1 J1 => pj_D 2 86 [.ref 3] (zc n, I1, J1) (kV n fun I2 J2 => ((v1 = 0 → pj_D 2 112 [.ref 2, .int 5] (zc n, I2, J2) (kI n fun v3 I3 J3 => Q (some (.int v3)) (zc n, I3, J3))) ∧ (¬ v1 = 0 → Q (some (.int (I2 251 4))) (zc n, I2, J2))))) 111 [some (.ref 251), some (.ref 3), some (.int (nI r)), some (.int (nI k)), none] [] (zc n) I' J 0 0 := by
    intro ok s
    have okk : seOK A.W A.tp.1 A.tp.2 := ⟨by omega, by omega, by rw [hr]; exact c3, by rw [hr]; exact ok⟩
    rw [if_pos okk, hr] at q
    have e3 : nI r * 3 = nI (3 * r) := (pk_mul r 3).trans (congrArg nI (by omega))
    induction s with
    | zero =>
      intro k I' hk hf hv
      obtain rfl : k = 3 * r := by omega
      refine v89_111 (pj_D_le 1) I' J _ _ ?_
      rw [e3]
      refine br_t (nI_le (Nat.le_refl _) (by omega)) (kI_i (s86 (by decide) (kV_i ⟨fun z => absurd z (by decide), fun _ => ?_⟩)))
      generalize hX : pj_u (pj_u I' 251 4 (nI r)) 3 1 0 = X
      have f : ∀ c j, c ≠ 3 → (c ≠ 251 ∨ j ≠ 4) → c ≠ 260 → X c j = I c j := fun c j h1 h2 h3 => by
        rw [← hX]
        rcases h2 with z | z
        · exact (pj_u_n h1).trans ((pj_u_n z).trans (hf c j h3))
        · exact (pj_u_n h1).trans ((pj_u_j z).trans (hf c j h3))
      have x4 : X 251 4 = nI r := by rw [← hX, pj_u_n (by decide), pj_u_e]
      have x60 : ∀ j, j < 3 * r → X 260 j = nI (A.tp.2 j) := fun j hj => by rw [← hX, pj_u_n (by decide), pj_u_n (by decide)]; exact hv j hj
      rw [x4]
      refine q X (fun c j hc => f c j (by omega) (by omega) (by omega)) (InvC_ex (A := A) (A' := A.clr.sR (r, rwF A.tp.2)) hI rfl (Or.inr ⟨Nat.zero_le _, by rw [← hX, pj_u_e]; rfl, fun k hk => absurd hk (Nat.not_lt_zero _)⟩) (fun c j h1 h2 => f c j (by omega) (by omega) (by omega)) (Or.inl ⟨rfl, fun c j h1 h2 => f c j (by omega) (by omega) (by omega), f _ _ (by decide) (by decide) (by decide)⟩) (Or.inl ⟨rfl, f _ _ (by decide) (by decide) (by decide), fun j => f _ _ (by decide) (by omega) (by decide)⟩) (Or.inl ⟨rfl, fun c j hc => f c j (by omega) (by omega) (by omega)⟩) (Or.inl ⟨rfl, fun j => f _ _ (by decide) (by omega) (by decide)⟩) (Or.inl ⟨rfl, f _ _ (by decide) (by decide) (by decide)⟩) (Or.inl ⟨rfl, f _ _ (by decide) (by decide) (by decide), f _ _ (by decide) (by decide) (by decide)⟩) (Or.inr ⟨x4, fun i hi => ⟨x60 (3 * i) (by have : i < r := hi; omega), x60 (3 * i + 1) (by have : i < r := hi; omega), ?_⟩⟩) (Or.inl ⟨rfl, fun c j hc => f c j (by omega) (by omega) (by omega)⟩) (fun j => f _ _ (by decide) (by omega) (by decide)))
      have hi : i < r := hi
      rw [x60 (3 * i + 2) (by omega)]
      show nI (A.tp.2 (3 * i + 2)) = nI ((if A.tp.2 (3 * i + 2) = 255 then none else some (A.tp.2 (3 * i + 2)) : Option Nat).getD 255)
      by_cases z : A.tp.2 (3 * i + 2) = 255
      · rw [if_pos z, z]; rfl
      · rw [if_neg z]; rfl
    | succ s ih =>
      intro k I' hk hf hv
      refine v89_111 (pj_D_le 1) I' J _ _ ?_
      rw [e3, nI_1, nI_clamp (n := k) (by omega)]
      have hT' : TC A.tp.1 A.tp.2 I' := ⟨h16, (hf _ _ (by decide)).trans hT.2.1, fun k hk => ⟨(hf _ _ (by decide)).trans (hT.2.2 k hk).1, (hT.2.2 k hk).2⟩⟩
      refine br_f (nI_ge (by omega) (by omega)) (s85t (Nat.le_refl 1) hT' (by omega) (kI_i ⟨pk_in k 48 (by omega), ?_⟩))
      refine ih (k + 1) _ (by omega) (fun c j hc => (pj_u_n hc).trans (hf c j hc)) (fun j hj => ?_)
      by_cases z : j = k
      · rw [z, pj_u_e]
      · rw [pj_u_j z]; exact hv j (by omega)
  suffices loop : ∀ s k, s + k = r → (∀ j, j < k → seO A.W A.tp.2 j) → pj_R (pj_D 1) ta mc_89 true (kI n fun v1 I1 J1 => pj_D 2 86 [.ref 3] (zc n, I1, J1) (kV n fun I2 J2 => ((v1 = 0 → pj_D 2 112 [.ref 2, .int 5] (zc n, I2, J2) (kI n fun v3 I3 J3 => Q (some (.int v3)) (zc n, I3, J3))) ∧ (¬ v1 = 0 → Q (some (.int (I2 251 4))) (zc n, I2, J2))))) 32 [some (.ref 251), some (.ref 3), some (.int (nI r)), some (.int (nI k)), none] [] (zc n) I J 0 0 from loop r 0 (by omega) (fun j hj => by omega)
  intro s
  induction s with
  | zero =>
    intro k hk ho
    obtain rfl : k = r := by omega
    exact v89_32 (pj_D_le 1) I J _ _ (br_t (nI_le (Nat.le_refl _) (by omega)) (rows ho (3 * k) 0 I (by omega) (fun _ _ _ => rfl) (fun j hj => by omega)))
  | succ s ih =>
    intro k hk ho
    have e3 : nI k * 3 = nI (3 * k) := (pk_mul k 3).trans (congrArg nI (by omega))
    have e32 : nI (3 * k) + 2 = nI (3 * k + 2) := nI_add _ 2
    refine v89_32 (pj_D_le 1) I J _ _ ?_
    rw [e3, e32, nI_1 k, nI_1 (3 * k)]
    have bad : ¬ seO A.W A.tp.2 k → ¬ seOK A.W A.tp.1 A.tp.2 := fun z y => z (y.2.2.2 k (by omega))
    have nx := fun (z : seO A.W A.tp.2 k) => ih (k + 1) (by omega) (fun j hj => by
      rcases Nat.lt_or_ge j k with y | y
      · exact ho j y
      · obtain rfl : j = k := by omega
        exact z)
    have g0 := (hT.2.2 (3 * k) (by omega)).2
    have g1 := (hT.2.2 (3 * k + 1) (by omega)).2
    have g2 := (hT.2.2 (3 * k + 2) (by omega)).2
    refine br_f (nI_ge (by omega) (by omega)) (s85t (Nat.le_refl 1) hT (by omega) (kI_i (s85t (Nat.le_refl 1) hT (by omega) (kI_i (pk_lt 30 (A.tp.2 (3 * k)) (fun d => fail (bad (fun z => by have := z.1; omega))) (fun d => s85t (Nat.le_refl 1) hT (by omega) (kI_i ?_)))))))
    rw [e5, e6]
    have ew : nI (A.tp.2 (3 * k + 2)) = 255 ↔ A.tp.2 (3 * k + 2) = 255 := nI_eq (b := 255) (by omega) (by decide)
    rw [ew]
    exact pk_lt (A.tp.2 (3 * k + 1)) A.W.nm (fun d1 => ⟨fun d2 => nx ⟨d, d1, Or.inl d2⟩, fun d2 => pk_lt (A.tp.2 (3 * k + 2)) A.W.nc (fun d3 => nx ⟨d, d1, Or.inr d3⟩) (fun d3 => fail (bad (fun z => by have := z.2.2; omega)))⟩) (fun d1 => fail (bad (fun z => by have := z.2.1; omega)))
/-- PegCoatsModel.see -/
theorem m244 (hh : 3 ≤ h) (hA : AV A) (hI : InvM A I J) (q : ∀ I' J', mF I I' → InvM (seeR A).1 I' J' → Q (some (.int (seeR A).2)) (zc n, I', J')) : pj_D h 244 [.ref 276] (zc n, I, J) Q := by
  have h7 := hA.2.2.1
  have h8 := hA.2.1
  have hT := hI.1
  have h16 := hT.1
  refine pj_ent (g := 2) hh (t := mt_244) rfl rfl (v244_0 (pj_D_le 2) I J ?_)
  have hI1 := InvM_clr hA hI
  have f1 : mF I (pj_u I 276 1 0) := mF_u (by decide) (fun _ _ _ => rfl)
  have t1 : tpM A.tp.1 A.tp.2 (pj_u I 276 1 0) := ⟨h16, fun k hk => ⟨(pj_u_n (by decide)).trans (hT.2.2 k hk).1, (hT.2.2 k hk).2⟩⟩
  rw [hT.2.1]
  generalize pj_u I 276 1 0 = I1 at hI1 f1 t1
  obtain ⟨B, b1, b2⟩ := hI1.2.1
  have b2 : MW A.W B I1 J := b2
  have hm : A.tp.1 ≤ 1600 := h16
  unfold seeR at q
  generalize hm0 : A.tp.1 = m at q t1 hm
  have fail : ¬ seOK A.W m A.tp.2 → pj_D 2 160 [.ref 276, .int 5] (zc n, I1, J) (kI n fun v1 I1 J1 => Q (some (.int v1)) (zc n, I1, J1)) := fun no => by
    rw [if_neg no] at q
    exact m160 (by decide) (k := 5) (by decide) (AV_sT hA) hI1 (fun I3 f3 hI3 => kI_i (q I3 J (mF_tr f1 f3) hI3))
  have ed : nI m / 3 = nI (m / 3) := pk_div (d := 3) (by omega) (by decide) (by decide)
  have er : nI m - nI m / 3 * 3 = nI (m % 3) := pk_rem (d := 3) (by omega) (by decide) (by decide)
  -- a walk that can tell nothing any more
  have dead : ¬ seOK A.W m A.tp.2 → ∀ x : Int32, pj_R (pj_D 2) ta mc_244 false Q 34 [some (.ref 276), some (.int (nI m)), some (.int 0), some (.int x)] [] (zc n) I1 J 0 0 := fun no x =>
    v244_34 (pj_D_le 2) I1 J _ _ _ ⟨fun _ => ⟨fun z => absurd rfl z, fun _ => fail no⟩, fun _ => ⟨fun _ => ⟨fun z => absurd rfl z, fun _ => fail no⟩, fun z => absurd rfl z⟩⟩
  have okc : m ≤ 0 ∨ m % 3 ≠ 0 ∨ 48 < m → ¬ seOK A.W m A.tp.2 := fun z y => by
    obtain ⟨y1, y2, y3, -⟩ := y
    omega
  have n0 : nI (m % 3) = 0 ↔ m % 3 = 0 := nI_eq (b := 0) (by omega) (by decide)
  rw [er, n0]
  refine pk_le m 0 (fun c => dead (okc (Or.inl c)) 0) (fun c0 => ⟨fun c => dead (okc (Or.inr (Or.inl c))) 0, fun c1 => pk_lt 48 m (fun c => dead (okc (Or.inr (Or.inr c))) 0) (fun c2 => ?_)⟩)
  have rows : (∀ k, k < m / 3 → seO A.W A.tp.2 k) → ∀ s k I', s + k = m / 3 → (∀ c j, (c < 314 ∨ 316 < c) → (c ≠ 276 ∨ j ≠ 60) → I' c j = I1 c j) → I' 276 60 = nI (m / 3) → (∀ j, j < k → I' 314 j = nI (rwF A.tp.2 j).1 ∧ I' 315 j = nI (rwF A.tp.2 j).2.1 ∧ I' 316 j = wo (rwF A.tp.2 j).2.2) → pj_R (pj_D 2) ta mc_244 false Q 129 [some (.ref 276), none, none, some (.int (nI k))] [] (zc n) I' J 0 0 := by
    intro ok s
    have okk : seOK A.W m A.tp.2 := ⟨by omega, by omega, by omega, ok⟩
    rw [if_pos okk] at q
    induction s with
    | zero =>
      intro k I' hk hf e60 hv
      obtain rfl : k = m / 3 := by omega
      refine v244_129 (pj_D_le 2) I' J _ ?_
      rw [e60]
      refine br_t (nI_le (Nat.le_refl _) (by omega)) ?_
      have g : ∀ c j, 299 ≤ c → c ≤ 308 → mS 1 c j = false → I' c j = I1 c j := fun c j h1 h2 _ => hf c j (by omega) (by omega)
      exact q I' J (mF_tr f1 (fun c j hc => hf c j (by omega) (by omega))) (InvM_ex (A := A.clr) (A' := A.clr.sR (m / 3, rwF A.tp.2)) hI1 rfl (Or.inl ⟨rfl, hf _ _ (by omega) (by decide), fun j => hf _ _ (by omega) (by omega)⟩) ⟨hf _ _ (by omega) (by decide), fun c j h1 h2 => hf c j (by omega) (by omega), fun c j _ _ => rfl⟩ (LM_x h8 h7 (by decide) g hI1.2.2.1) (KM_x (by decide) g hI1.2.2.2.1) (hM_eq (A := A.clr) rfl rfl rfl (hM_x h8 h7 (by decide) (hf _ _ (by omega) (by decide)) (hf _ _ (by omega) (by decide)) g hI1.2.2.2.2.1)) (Or.inl ⟨rfl, fun j => hf _ _ (by omega) (by omega)⟩) (Or.inl ⟨rfl, rfl⟩) (Or.inl ⟨rfl, hf _ _ (by omega) (by decide), hf _ _ (by omega) (by decide)⟩) (Or.inr ⟨e60, fun i hi => hv i hi⟩) (Or.inl ⟨rfl, hf _ _ (by omega) (by decide), fun j => hf _ _ (by omega) (by omega)⟩))
    | succ s ih =>
      intro k I' hk hf e60 hv
      have e3 : (3 : Int32) * nI k = nI (3 * k) := pk_mul 3 k
      have e32 : nI (3 * k) + 2 = nI (3 * k + 2) := nI_add _ 2
      have b := fun i (hi : i < 3) => t1.2 (3 * k + i) (by omega)
      have bb : ∀ i, i < 3 → I' 277 (3 * k + i) = nI (A.tp.2 (3 * k + i)) := fun i hi => (hf _ _ (by omega) (by omega)).trans (b i hi).1
      have b0 : I' 277 (3 * k) = nI (A.tp.2 (3 * k)) := bb 0 (by decide)
      refine v244_129 (pj_D_le 2) I' J _ ?_
      rw [e60, e3, e32, nI_1 (3 * k), nI_1 k, nI_clamp (n := 3 * k) (by omega), nI_clamp (n := 3 * k + 1) (by omega), nI_clamp (n := 3 * k + 2) (by omega), nI_clamp (n := k) (by omega), b0, bb 1 (by decide), bb 2 (by decide)]
      have ew : nI (A.tp.2 (3 * k + 2)) = 255 ↔ A.tp.2 (3 * k + 2) = 255 := nI_eq (b := 255) (by have := (b 2 (by decide)).2; omega) (by decide)
      rw [ew]
      have i0 := pk_in (x := nI (3 * k)) (3 * k) 1800 (by omega)
      have i1 := pk_in (x := nI (3 * k + 1)) (3 * k + 1) 1800 (by omega)
      have i2 := pk_in (x := nI (3 * k + 2)) (3 * k + 2) 1800 (by omega)
      have ik := pk_in (x := nI k) k 16 (by omega)
      have nx : ∀ x : Int32, x = wo (rwF A.tp.2 k).2.2 → pj_R (pj_D 2) ta mc_244 false Q 129 [some (.ref 276), none, none, some (.int (nI (k + 1)))] [] (zc n) (pj_u (pj_u (pj_u I' 314 k (nI (A.tp.2 (3 * k)))) 315 k (nI (A.tp.2 (3 * k + 1)))) 316 k x) J 0 0 := fun x hx => by
        refine ih (k + 1) _ (by omega) (fun c j h1 h2 => (pj_u_n (by omega)).trans ((pj_u_n (by omega)).trans ((pj_u_n (by omega)).trans (hf c j h1 h2)))) ((pj_u_n (by decide)).trans ((pj_u_n (by decide)).trans ((pj_u_n (by decide)).trans e60))) (fun j hj => ?_)
        by_cases z : j = k
        · subst z
          refine ⟨?_, ?_, ?_⟩
          · rw [pj_u_n (by decide), pj_u_n (by decide), pj_u_e]; rfl
          · rw [pj_u_n (by decide), pj_u_e]; rfl
          · rw [pj_u_e]; exact hx
        · have := hv j (by omega)
          rw [pj_u_n (by decide), pj_u_n (by decide), pj_u_j z, pj_u_n (show 315 ≠ 316 by decide), pj_u_j z, pj_u_n (show 315 ≠ 314 by decide), pj_u_j z, pj_u_n (show 316 ≠ 315 by decide), pj_u_n (show 316 ≠ 314 by decide)]
          exact this
      refine br_f (nI_ge (by omega) (by omega)) ⟨i0, ik, i1, ik, i2, fun d => ⟨i2, ik, nx _ ?_⟩, fun d => ⟨ik, nx _ ?_⟩⟩
      · show _ = wo (if _ then none else some _)
        rw [if_neg d]; rfl
      · show _ = wo (if _ then none else some _)
        rw [if_pos d]; rfl
  suffices loop : ∀ s k, s + k = m / 3 → (∀ j, j < k → seO A.W A.tp.2 j) → pj_R (pj_D 2) ta mc_244 false Q 34 [some (.ref 276), some (.int (nI m)), some (.int 1), some (.int (nI (3 * k)))] [] (zc n) I1 J 0 0 from loop (m / 3) 0 (by omega) (fun j hj => by omega)
  intro s
  induction s with
  | zero =>
    intro k hk ho
    obtain rfl : k = m / 3 := by omega
    refine v244_34 (pj_D_le 2) I1 J _ _ _ (br_t (nI_le (by omega) (by omega)) ⟨fun _ => ?_, fun z => absurd z (by decide)⟩)
    rw [ed]
    exact rows ho (m / 3) 0 _ (by omega) (fun c j h1 h2 => by rcases h2 with z | z; exact pj_u_n z; exact pj_u_j z) pj_u_e (fun j hj => by omega)
  | succ s ih =>
    intro k hk ho
    have b := fun i (hi : i < 3) => t1.2 (3 * k + i) (by omega)
    have b0 := b 0 (by decide)
    rw [Nat.add_zero] at b0
    have e1 : nI (3 * k) + 1 = nI (3 * k + 1) := nI_1 _
    have e2 : nI (3 * k) + 2 = nI (3 * k + 2) := nI_add _ 2
    have e3 : nI (3 * k) + 3 = nI (3 * (k + 1)) := (nI_add _ 3).trans (congrArg nI (by omega))
    have bad : ¬ seO A.W A.tp.2 k → ¬ seOK A.W m A.tp.2 := fun z y => z (y.2.2.2 k (by omega))
    have nx := fun (z : seO A.W A.tp.2 k) => ih (k + 1) (by omega) (fun j hj => by
      rcases Nat.lt_or_ge j k with y | y
      · exact ho j y
      · obtain rfl : j = k := by omega
        exact z)
    refine v244_34 (pj_D_le 2) I1 J _ _ _ (br_f (nI_ge (by omega) (by omega)) ⟨fun z => absurd z (by decide), fun _ => ⟨pk_in (3 * k) 1800 (by omega), ?_⟩⟩)
    rw [e1, e2, e3, nI_clamp (n := 3 * k) (by omega), nI_clamp (n := 3 * k + 1) (by omega), nI_clamp (n := 3 * k + 2) (by omega), b0.1, (b 1 (by decide)).1]
    have g1 := (b 1 (by decide)).2
    have g2 := (b 2 (by decide)).2
    refine pk_lt 30 (A.tp.2 (3 * k)) (fun d => dead (bad (fun z => by have := z.1; omega)) _) (fun d => ⟨pk_in (3 * k + 1) 1800 (by omega), ?_⟩)
    refine s212 (by decide) b1 b2.1.2.2.1 b2.1.2.2.2.2.1 h7 (fun y hy ey => kI_i ⟨fun z => absurd z (by decide), fun _ => ⟨pk_in (3 * k + 2) 1800 (by omega), ?_⟩⟩) (fun z => kI_i ⟨fun _ => dead (bad (fun y => z _ y.2.1 rfl)) _, fun z => absurd rfl z⟩)
    have d1 : A.tp.2 (3 * k + 1) < A.W.nm := by have := (nI_eq (by omega) (by omega)).mp ey; omega
    rw [(b 2 (by decide)).1]
    have ew : nI (A.tp.2 (3 * k + 2)) = 255 ↔ A.tp.2 (3 * k + 2) = 255 := nI_eq (b := 255) (by omega) (by decide)
    refine s211 (by decide) b1 b2.1.2.2.1 b2.1.2.2.2.1 h8 (fun y hy ey => kI_i ⟨fun _ => ?_, fun z => absurd z (by decide)⟩) (fun z => kI_i ⟨fun z => absurd rfl z, fun _ => ⟨pk_in (3 * k + 2) 1800 (by omega), ?_⟩⟩)
    · exact nx ⟨d, d1, Or.inr (by have := (nI_eq (by omega) (by omega)).mp ey; omega)⟩
    · rw [(b 2 (by decide)).1, ew]
      exact ⟨fun d2 => dead (bad (fun y => y.2.2.elim d2 (fun x => z _ x rfl))) _, fun d2 => nx ⟨d, d1, Or.inl d2⟩⟩
end PSee
