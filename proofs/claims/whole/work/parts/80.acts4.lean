/-! acts: hang, undo; feed, end, seed -/
theorem tix_p {W : Wk} {L : Ly} {p : Int32} {i : Nat} (e : tix W L p = some i) : i < W.nm ∧ L.the i = true := by
  unfold tix at e
  cases e3 : ix W.nm p with
  | none => rw [e3] at e; cases e
  | some k =>
    rw [e3] at e
    simp only at e
    unfold ix at e3
    split at e3
    · rename_i y
      split at e
      · rename_i x
        cases e
        cases e3
        exact ⟨y.2, x⟩
      · cases e
    · cases e3
theorem ix_p {m : Nat} {p : Int32} {i : Nat} (e : ix m p = some i) : i < m := by
  unfold ix at e
  split at e
  · rename_i y
    cases e
    exact y.2
  · cases e
theorem aw_p {a b y : Nat} {p : Int32} {i : Nat} (e : aw a b y p = some i) : a ≤ i ∧ i ≤ b ∧ y + i ≤ 999 := by
  unfold aw at e
  split at e
  · rename_i z
    cases e
    exact z.2
  · cases e
theorem AV_yearsR {A : Ab} {p : Int32} (hA : AV A) : AV (yearsR A p).1 := by
  unfold yearsR
  cases e : aw 1 40 A.L.yr p with
  | none => exact hA
  | some m => exact (yrN_V (AV_push hA) (aw_p e).2.2).1
theorem AV_chanceR {A : Ab} {p : Int32} (hA : AV A) : AV (chanceR A p).1 := by
  unfold chanceR
  cases e : aw 1 40 A.L.yr p with
  | none => exact hA
  | some m => exact (chN_V (AV_push hA) (aw_p e).2.2).1
theorem AV_putR {A : Ab} {p r : Int32} (hA : AV A) : AV (putR A p r).1 := by
  unfold putR
  cases e1 : tix A.W A.L p with
  | none => exact hA
  | some i =>
    simp only
    cases e2 : A.L.wor i with
    | some _ => exact hA
    | none =>
      simp only
      cases e3 : ix A.W.nc r with
      | none => exact hA
      | some c =>
        simp only
        cases e4 : peg A.W A.L c with
        | false => exact hA
        | true => exact AV_sL (AV_push hA) (dress_LV hA.2.2.2.1 (ix_p e3) e4 (tix_p e1).2) (Nat.le_refl _)
theorem AV_hangR {A : Ab} {p : Int32} (hA : AV A) : AV (hangR A p).1 := by
  unfold hangR
  cases e1 : ix A.W.nm p with
  | none => exact hA
  | some i =>
    simp only
    cases e2 : A.L.wor i with
    | none => exact hA
    | some _ => exact AV_sL (AV_push hA) (hng_LV hA.2.2.2.1) (Nat.le_refl _)
theorem AV_undoR {A : Ab} (hA : AV A) : AV (undoR A).1 := by
  unfold undoR
  split
  · exact hA
  · exact AV_pop hA (by omega)
def feedR (A : Ab) (p : Nat → Int32) : Ab × Int32 := if A.tp.1 + 20 ≤ 1600 then (A.sT (A.tp.1 + 20, fun j => if j < A.tp.1 then A.tp.2 j else (b5 p (j - A.tp.1)).toNatClampNeg), nI (A.tp.1 + 20)) else (A.ref 0, -1)
def endR (A : Ab) (p : Int32) : Ab × Int32 := if ¬ p < 0 ∧ p ≤ nI A.tp.1 then (A.sT (p.toNatClampNeg, A.tp.2), 1) else (A.ref 0, 0)
def seedR (A : Ab) (p : Int32) : Ab × Int32 := if 0 ≤ p then (A.sS p.toNatClampNeg, 1) else (A.ref 5, 0)
theorem AV_sT {A : Ab} {t : Nat × (Nat → Nat)} (hA : AV A) : AV (A.sT t) := hA
theorem AV_feedR {A : Ab} {p : Nat → Int32} (hA : AV A) : AV (feedR A p).1 := by
  unfold feedR
  split <;> exact hA
theorem AV_endR {A : Ab} {p : Int32} (hA : AV A) : AV (endR A p).1 := by
  unfold endR
  split <;> exact hA
theorem AV_seedR {A : Ab} {p : Int32} (hA : AV A) : AV (seedR A p).1 := by
  unfold seedR
  split
  · rename_i z
    obtain ⟨j, hj, rfl⟩ := nI_of (x := p) (fun c => absurd (Int32.lt_of_le_of_lt z c) (by decide))
    exact AV_sS hA (by rw [nI_clamp hj]; exact hj)
  · exact hA
section PA4
variable {n h : Nat} {Q : pj_K} {I I' : Nat → Nat → Int32} {J : Nat → Nat → Int64} {A : Ab}
/-- PegCoats.hang -/
theorem c150 (hh : 3 ≤ h) {p : Int32} (hA : AV A) (hI : InvC A I) (q : ∀ I', cF I I' → InvC (hangR A p).1 I' → Q (some (.int (hangR A p).2)) (zc n, I', J)) : pj_D h 150 [.ref 2, .int p] (zc n, I, J) Q := by
  have h7 := hA.2.2.1
  have h8 := hA.2.1
  have hV := hA.2.2.2.1
  have hL := hI.2.2.1
  refine pj_ent (g := 2) hh (t := mt_150) rfl rfl (v150_0 (pj_D_le 2) I J _ ?_)
  have no : hangR A p = (A.ref 3, 0) → pj_D 2 114 [.ref 2, .int 3] (zc n, I, J) (kI n fun v1 I1 J1 => (v1 &&& 1 = v1 ∧ Q (some (.int v1)) (zc n, I1, J1))) := fun e => by
    rw [e] at q
    exact c114 (by decide) (k := 3) (by decide) hI (fun I1 f1 hI1 => kI_i ⟨by decide, q I1 f1 hI1⟩)
  refine s122 (by decide) hI.2.1.1.2.2.2.1 h7 (fun i hi ei => kI_i ⟨fun z => absurd z (by decide), fun _ => ⟨by rw [ei]; exact pk_in i 7 (by omega), ?_⟩⟩) (fun z => kI_i ⟨fun _ => no ?_, fun z => absurd rfl z⟩)
  · subst ei
    rw [nI_clamp (n := i) (by omega), (hL.2.2 i hi).2.2.1]
    unfold hangR at q no
    rw [ix_s hi (by omega)] at q no
    simp only at q no
    cases e1 : A.L.wor i with
    | none =>
      rw [e1] at no
      exact ⟨fun z => absurd rfl z, fun _ => no rfl⟩
    | some a =>
      rw [e1] at q
      simp only at q
      refine ⟨fun _ => c10 (by decide) hA hI (fun I1 f1 hI1 => kV_i ⟨pk_in i 7 (by omega), ?_⟩), fun z => absurd z (wo_not h8 hV hi e1)⟩
      have L1 : LC A.W 35 A.L I1 := hI1.2.2.1
      refine q _ (cF_u (by decide) f1) (InvC_L hI1 (fun c j hc _ => pj_u_n (by omega)) (LC_m (m := i) L1 rfl rfl rfl (fun k hk => ⟨rfl, rfl, upd1_n hk, rfl, rfl⟩) (pj_u_n (by decide)) (fun k j h1 h2 => pj_u_n (by omega)) (fun k j h1 h2 hj => pj_u_j hj) ⟨?_, ?_, ?_, ?_, ?_⟩))
      · rw [pj_u_n (by decide)]; exact (L1.2.2 i hi).1
      · rw [pj_u_n (by decide)]; exact (L1.2.2 i hi).2.1
      · show pj_u I1 40 i (-1) 40 i = wo (upd1 A.L.wor i none i)
        rw [pj_u_e, upd1_e]; rfl
      · rw [pj_u_n (by decide)]; exact (L1.2.2 i hi).2.2.2.1
      · rw [pj_u_n (by decide)]; exact (L1.2.2 i hi).2.2.2.2
  · unfold hangR
    rw [ix_n (by omega) z]
/-- PegCoatsModel.hang -/
theorem m256 (hh : 4 ≤ h) {p : Int32} (hA : AV A) (hI : InvM A I J) (q : ∀ I' J', mF I I' → InvM (hangR A p).1 I' J' → Q (some (.int (hangR A p).2)) (zc n, I', J')) : pj_D h 256 [.ref 276, .int p] (zc n, I, J) Q := by
  have h7 := hA.2.2.1
  have h8 := hA.2.1
  have hV := hA.2.2.2.1
  have hL := hI.2.2.1
  obtain ⟨B, b1, b2⟩ := hI.2.1
  refine pj_ent (g := 3) hh (t := mt_256) rfl rfl (v256_0 (pj_D_le 3) I J _ ?_)
  have no : hangR A p = (A.ref 3, 0) → pj_D 3 160 [.ref 276, .int 3] (zc n, I, J) (kI n fun v2 I2 J2 => ((v2 < 0 → Q (some (.int 0)) (zc n, I2, J2)) ∧ (¬ v2 < 0 → Q (some (.int 1)) (zc n, I2, J2)))) := fun e => by
    rw [e] at q
    exact m160 (by decide) (k := 3) (by decide) hA hI (fun I1 f1 hI1 => kI_i ⟨fun _ => q I1 J f1 hI1, fun z => absurd (by decide) z⟩)
  refine s212 (by decide) b1 b2.1.2.2.1 b2.1.2.2.2.2.1 h7 (fun i hi ei => kI_i ⟨fun z => absurd z (by decide), fun _ => ⟨by rw [ei]; exact pk_in i 154 (by omega), ?_⟩⟩) (fun z => kI_i ⟨fun _ => no ?_, fun z => absurd rfl z⟩)
  · subst ei
    rw [nI_clamp (n := i) (by omega), lm_w hL hi]
    unfold hangR at q no
    rw [ix_s hi (by omega)] at q no
    simp only at q no
    cases e1 : A.L.wor i with
    | none =>
      rw [e1] at no
      exact ⟨fun z => absurd rfl z, fun _ => no rfl⟩
    | some a =>
      rw [e1] at q
      simp only at q
      refine ⟨fun _ => m250 (by decide) hA hI (fun I1 f1 hI1 => kV_i ⟨pk_in i 154 (by omega), ?_⟩), fun z => absurd z (wo_not h8 hV hi e1)⟩
      have L1 : LM A.W 0 A.L I1 := hI1.2.2.1
      have r := L1.2.2.2.2 i hi
      refine q _ J (mF_u (by decide) f1) (InvM_L (AV_push hA) hI1 (pj_fr_u pj_fr_rf (by have := nS_7 (v := 0) (c := 304) (m := i) (by decide) (by decide) (by omega); rw [Nat.mul_zero, Nat.zero_add] at this; exact this)) (LM_m (m := i) L1 rfl rfl rfl (fun k hk => ⟨rfl, rfl, upd1_n hk, rfl⟩) ?_ (fun c j hc => pj_u_n (by omega)) (fun c j h1 h2 hj => pj_u_j (by omega)) ⟨?_, ?_, ?_, ?_⟩))
      · obtain ⟨G, g1, g2, g3⟩ := L1.2.2.1
        exact ⟨G, (pj_u_n (by decide)).trans g1, g2, g3⟩
      · rw [pj_u_n (by decide)]; exact r.1
      · rw [pj_u_n (by decide)]; exact r.2.1
      · show pj_u I1 304 i (-1) 304 (7 * 0 + i) = wo (upd1 A.L.wor i none i)
        rw [Nat.mul_zero, Nat.zero_add, pj_u_e, upd1_e]; rfl
      · rw [pj_u_n (by decide)]; exact r.2.2.2
  · unfold hangR
    rw [ix_n (by omega) z]
/-- PegCoats.undo -/
theorem c151 (hh : 3 ≤ h) (hA : AV A) (hI : InvC A I) (q : ∀ I', cF I I' → InvC (undoR A).1 I' → Q (some (.int (undoR A).2)) (zc n, I', J)) : pj_D h 151 [.ref 2] (zc n, I, J) Q := by
  have hI0 := hI
  have h20 := hA.2.2.2.2.2.2.1
  have h8 := hA.2.1
  have h7 := hA.2.2.1
  obtain ⟨a1, a2, a3, a4, ⟨nx, c1, c2, c3, c4⟩, -⟩ := hI
  refine pj_ent (g := 2) hh (t := mt_151) rfl rfl (v151_0 (pj_D_le 2) I J ?_)
  unfold undoR at q
  refine s11 (Nat.le_refl 2) c2 c1 c3 h20 (fun e => kI_i ⟨fun z => absurd rfl z, fun _ => ?_⟩) (fun e I1 hc => kI_i ⟨fun _ => ?_, fun z => absurd z (by decide)⟩)
  · rw [if_pos e] at q
    exact c114 (by decide) (k := 4) (by decide) hI0 (fun I1 f1 hI1 => kI_i ⟨fun _ => q I1 f1 hI1, fun z => absurd rfl z⟩)
  · rw [if_neg (by omega)] at q
    generalize hY : pj_u (pj_u I 59 2 (nI ((nx + 19) % 20))) 59 1 (nI (A.hs.1 - 1)) = Y at hc
    have y : ∀ c j, c ≠ 59 → Y c j = I c j := fun c j hc => by rw [← hY]; exact (pj_u_n hc).trans (pj_u_n hc)
    have fr : ∀ c j, c < 35 ∨ 42 < c → I1 c j = Y c j := fun c j hcj => hc.2.2.2.2.2.2.2.2.2 c j (lS_i (by omega))
    have f : ∀ c j, (c < 35 ∨ 42 < c) → c ≠ 59 → I1 c j = I c j := fun c j hcj h59 => (fr c j hcj).trans (y c j h59)
    have z0 := c4 0 e
    rw [Nat.sub_zero] at z0
    have tl : (nx + 19) % 20 < 20 := Nat.mod_lt _ (by decide)
    have L0 : LC A.W (61 + 8 * ((nx + 19) % 20)) (A.hs.2 0).1 Y := LC_fr (fun c j h1 h2 => y c j (by omega)) z0.1
    have k8 : I1 35 8 = nI (A.hs.2 0).2 := hc.2.2.2.2.2.2.2.2.1.trans ((y _ _ (by omega)).trans z0.2)
    have b0 := hA.2.2.2.2.2.2.2.1 0 e
    refine q I1 (fun c j hc => f c j (by omega) (by omega)) (InvC_ex hI0 rfl (Or.inl ⟨rfl, fun c j hc => f c j (by omega) (by omega)⟩) (fun c j h1 h2 => f c j (by omega) (by omega)) (Or.inr (LC_cp h8 h7 hc L0)) (Or.inr ⟨?_, k8, fun i hi => ?_⟩) (Or.inr ⟨(nx + 19) % 20, tl, ?_, ?_, fun i hi => ?_⟩) (Or.inl ⟨rfl, fun j => f _ _ (by omega) (by decide)⟩) (Or.inl ⟨rfl, f _ _ (by omega) (by decide)⟩) (Or.inl ⟨rfl, f _ _ (by omega) (by decide), f _ _ (by omega) (by decide)⟩) (Or.inl ⟨rfl, f _ _ (by omega) (by decide), fun j => f _ _ (by omega) (by decide)⟩) (Or.inl ⟨rfl, fun c j hc => f c j (by omega) (by omega)⟩) (fun j => f _ _ (by omega) (by decide)))
    · show (A.hs.2 0).2 ≤ 999
      have := b0.1.1
      omega
    · have hi : i < (A.hs.2 0).2 := hi
      have r := a4.2.2 i (by omega)
      exact ⟨(f _ _ (by omega) (by decide)).trans r.1, r.2⟩
    · rw [fr 59 2 (by omega), ← hY, pj_u_j (by decide), pj_u_e]
    · rw [fr 59 1 (by omega), ← hY, pj_u_e]; rfl
    · have hi : i < A.hs.1 - 1 := hi
      have r := c4 (i + 1) (by omega)
      rw [show ((nx + 19) % 20 + 19 - i) % 20 = (nx + 19 - (i + 1)) % 20 by omega]
      have := Nat.mod_lt (nx + 19 - (i + 1)) (show 0 < 20 by decide)
      exact ⟨LC_fr (fun c j h1 h2 => f c j (by omega) (by omega)) r.1, (f _ _ (by omega) (by omega)).trans r.2⟩
/-- PegCoatsModel.undo -/
theorem m202 (hh : 2 ≤ h) (hA : AV A) (hI : InvM A I J) (q : ∀ I' J', mF I I' → InvM (undoR A).1 I' J' → Q (some (.int (undoR A).2)) (zc n, I', J')) : pj_D h 202 [.ref 276] (zc n, I, J) Q := by
  have hI0 := hI
  have h20 := hA.2.2.2.2.2.2.1
  have h8 := hA.2.1
  have h7 := hA.2.2.1
  obtain ⟨a1, -, a3, a4, ⟨u, c1, c2, c3, c4⟩, -⟩ := hI
  unfold undoR at q
  refine s202 (m := tld (A.hs.2 0).2) hh c2 c1 c3 h20 (fun e => ?_) (tld_le _).2 (fun e => ?_) (fun e I1 hc => ?_)
  · have := (c4 0 e).2.1
    rw [Nat.sub_zero] at this
    exact this
  · rw [if_pos e] at q
    exact q _ J (mF_u (by decide) (fun _ _ _ => rfl)) (InvM_rf hA (by decide) hI0)
  · rw [if_neg (by omega)] at q
    have z0 := c4 0 e
    rw [Nat.sub_zero] at z0
    generalize hY : pj_u I 276 53 (nI (A.hs.1 - 1)) = Y at hc
    have y : ∀ c j, c ≠ 276 ∨ j ≠ 53 → Y c j = I c j := fun c j hcj => by
      rw [← hY]
      rcases hcj with z | z
      · exact pj_u_n z
      · exact pj_u_j z
    have frm := hc.2.2.2.2.2.2.2.2.2.2
    have f : ∀ c j, (c < 299 ∨ 308 < c) → (c ≠ 276 ∨ j ≠ 53) → I1 c j = I c j := fun c j hc hc2 => (frm c j (mS_f hc)).trans (y c j hc2)
    have g : ∀ c j, 299 ≤ c → c ≤ 308 → mS 0 c j = false → I1 c j = I c j := fun c j h1 h2 h3 => (frm c j h3).trans (y c j (by omega))
    have L0 : LM A.W (2 + (u + (A.hs.1 - 1)) % 20) (A.hs.2 0).1 Y := LM_x h8 h7 (v := 1) (by omega) (fun c j _ _ _ => y c j (by omega)) z0.1
    have K0 : KM (2 + (u + (A.hs.1 - 1)) % 20) (A.hs.2 0).2 A.kp.2 Y := KM_x (v := 1) (by omega) (fun c j _ _ _ => y c j (by omega)) z0.2
    refine q I1 J (fun c j hc => f c j (by omega) (by omega)) (InvM_ex hI0 rfl (Or.inl ⟨rfl, f _ _ (by omega) (by omega), fun j => f _ _ (by omega) (by omega)⟩) ⟨f _ _ (by omega) (by omega), fun c j h1 h2 => f c j (by omega) (by omega), fun c j h1 h2 => rfl⟩ (LM_cp h8 h7 hc L0) (KM_cp hc K0) ⟨u, c1, ?_, ?_, fun i hi => ?_⟩ (Or.inl ⟨rfl, fun j => f _ _ (by omega) (by omega)⟩) (Or.inl ⟨rfl, rfl⟩) (Or.inl ⟨rfl, f _ _ (by omega) (by omega), f _ _ (by omega) (by omega)⟩) (Or.inl ⟨rfl, f _ _ (by omega) (by omega), fun c j h1 h2 => f c j (by omega) (by omega)⟩) (Or.inl ⟨rfl, f _ _ (by omega) (by omega), fun j => f _ _ (by omega) (by omega)⟩))
    · exact (f _ _ (by omega) (by omega)).trans c2
    · rw [frm 276 53 rfl, ← hY, pj_u_e]; rfl
    · have hi : i < A.hs.1 - 1 := hi
      have r := c4 (i + 1) (by omega)
      show LM A.W (2 + (u + (A.hs.1 - 1 - 1 - i)) % 20) (A.hs.2 (i + 1)).1 I1 ∧ KM (2 + (u + (A.hs.1 - 1 - 1 - i)) % 20) (A.hs.2 (i + 1)).2 A.kp.2 I1
      rw [show A.hs.1 - 1 - 1 - i = A.hs.1 - 1 - (i + 1) by omega]
      exact ⟨LM_x h8 h7 (by omega) g r.1, KM_x (by omega) g r.2⟩
/-- the tape -/
theorem InvC_tp {t : Nat × (Nat → Nat)} (h : InvC A I) (hf : ∀ c j, c ≠ 3 → c ≠ 4 → c < 276 → I' c j = I c j) (hT : TC t.1 t.2 I') : InvC (A.sT t) I' :=
  InvC_ex h rfl (Or.inr hT) (fun c j h1 h2 => hf c j (by omega) (by omega) (by omega)) (Or.inl ⟨rfl, fun c j h1 h2 => hf c j (by omega) (by omega) (by omega), hf _ _ (by decide) (by decide) (by decide)⟩) (Or.inl ⟨rfl, hf _ _ (by decide) (by decide) (by decide), fun j => hf _ _ (by decide) (by decide) (by decide)⟩) (Or.inl ⟨rfl, fun c j hc => hf c j (by omega) (by omega) (by omega)⟩) (Or.inl ⟨rfl, fun j => hf _ _ (by decide) (by decide) (by decide)⟩) (Or.inl ⟨rfl, hf _ _ (by decide) (by decide) (by decide)⟩) (Or.inl ⟨rfl, hf _ _ (by decide) (by decide) (by decide), hf _ _ (by decide) (by decide) (by decide)⟩) (Or.inl ⟨rfl, hf _ _ (by decide) (by decide) (by decide), fun j => hf _ _ (by decide) (by decide) (by decide)⟩) (Or.inl ⟨rfl, fun c j hc => hf c j (by omega) (by omega) (by omega)⟩) (fun j => hf _ _ (by decide) (by decide) (by decide))
theorem InvM_tp {t : Nat × (Nat → Nat)} (hA : AV A) (h : InvM A I J) (hf : ∀ c j, c ≠ 277 → (c ≠ 276 ∨ j ≠ 1) → 276 ≤ c → I' c j = I c j) (hT : TM t.1 t.2 I') : InvM (A.sT t) I' J := by
  have g : ∀ c j, 299 ≤ c → c ≤ 308 → mS 1 c j = false → I' c j = I c j := fun c j h1 h2 _ => hf c j (by omega) (by omega) (by omega)
  exact InvM_ex h rfl (Or.inr hT) ⟨hf _ _ (by decide) (by decide) (by decide), fun c j h1 h2 => hf c j (by omega) (by omega) (by omega), fun c j _ _ => rfl⟩ (LM_x hA.2.1 hA.2.2.1 (by decide) g h.2.2.1) (KM_x (by decide) g h.2.2.2.1) (hM_eq (A := A) rfl rfl rfl (hM_x hA.2.1 hA.2.2.1 (by decide) (hf _ _ (by decide) (by decide) (by decide)) (hf _ _ (by decide) (by decide) (by decide)) g h.2.2.2.2.1)) (Or.inl ⟨rfl, fun j => hf _ _ (by decide) (by omega) (by decide)⟩) (Or.inl ⟨rfl, rfl⟩) (Or.inl ⟨rfl, hf _ _ (by decide) (by decide) (by decide), hf _ _ (by decide) (by decide) (by decide)⟩) (Or.inl ⟨rfl, hf _ _ (by decide) (by decide) (by decide), fun c j h1 h2 => hf c j (by omega) (by omega) (by omega)⟩) (Or.inl ⟨rfl, hf _ _ (by decide) (by decide) (by decide), fun j => hf _ _ (by decide) (by omega) (by decide)⟩)
end PA4
