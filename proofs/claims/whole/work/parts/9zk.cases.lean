/-! the law's loop: each call -/
theorem qC_m {c j : Nat} (h : 276 ≤ c) : qC c j = false := by
  unfold qC
  rw [ble_f.mpr (by omega)]
  rfl
theorem qM_c {c j : Nat} (h : c < 276) : qM c j = false := qM_f ⟨Or.inl (by omega), by omega⟩
section PLc
variable {n : Nat} {Q : pj_K} {I : Nat → Nat → Int32} {J : Nat → Nat → Int64} {A : Ab} {q3 : Int32}
/-- the loop goes on -/
def LNx (n : Nat) (Q : pj_K) (q3 : Int32) : Prop := ∀ A' I2 J2, AV A' → InvC A' I2 → InvM A' I2 J2 → pj_R (pj_D 100) ta mc_0 true Q 1053 [some (.ref 0), some (.ref 2), some (.ref 276), some (.int q3)] [] (zc n) I2 J2 0 0
def LAt (n : Nat) (Q : pj_K) (q3 : Int32) (I : Nat → Nat → Int32) (J : Nat → Nat → Int64) (pc : Nat) : Prop := pj_R (pj_D 100) ta mc_0 true Q pc [some (.ref 0), some (.ref 2), some (.ref 276), some (.int q3)] [] (zc n) I J 0 0
def LBd (n : Nat) (q3 : Int32) : Prop := vp_in (q3 + 1) n ∧ vp_in (q3 + 2) n ∧ vp_in (q3 + 3) n ∧ vp_in (q3 + 4) n ∧ vp_in (q3 + 5) n
/-- feed -/
theorem lc_176 (hA : AV A) (hC : InvC A I) (hM : InvM A I J) (b : LBd n q3) (nx : LNx n Q q3) : LAt n Q q3 I J 176 := by
  refine v0_176 (pj_D_le 100) I J q3 (⟨b.1, ⟨b.2.1, ⟨b.2.2.1, ⟨b.2.2.2.1, ⟨b.2.2.2.2, c111 (p := (fun i => match i with | 0 => I 0 (q3 + 1).toNatClampNeg | 1 => I 0 (q3 + 2).toNatClampNeg | 2 => I 0 (q3 + 3).toNatClampNeg | 3 => I 0 (q3 + 4).toNatClampNeg | _ => I 0 (q3 + 5).toNatClampNeg)) (by decide) hC (fun I1 f1 h1 => kI_i (⟨b.1, ⟨b.2.1, ⟨b.2.2.1, ⟨b.2.2.2.1, ⟨b.2.2.2.2, ?_⟩⟩⟩⟩⟩))⟩⟩⟩⟩⟩)
  rw [f1 0 (q3 + 1).toNatClampNeg (Or.inr rfl)]
  rw [f1 0 (q3 + 2).toNatClampNeg (Or.inr rfl)]
  rw [f1 0 (q3 + 3).toNatClampNeg (Or.inr rfl)]
  rw [f1 0 (q3 + 4).toNatClampNeg (Or.inr rfl)]
  rw [f1 0 (q3 + 5).toNatClampNeg (Or.inr rfl)]
  exact m159 (p := (fun i => match i with | 0 => I 0 (q3 + 1).toNatClampNeg | 1 => I 0 (q3 + 2).toNatClampNeg | 2 => I 0 (q3 + 3).toNatClampNeg | 3 => I 0 (q3 + 4).toNatClampNeg | _ => I 0 (q3 + 5).toNatClampNeg)) (by decide) hA (InvM_c hA (fun c j hc => f1 c j (Or.inl hc)) hM) (fun I2 J2 f2 h2 => kI_i ⟨fun _ => nx _ I2 J2 (AV_feedR hA) (InvC_m f2 h1) h2, fun z => absurd rfl z⟩)
/-- end -/
theorem lc_239 (hA : AV A) (hC : InvC A I) (hM : InvM A I J) (b : LBd n q3) (nx : LNx n Q q3) : LAt n Q q3 I J 239 := by
  refine v0_239 (pj_D_le 100) I J q3 (⟨b.1, c113 (by decide) hC (fun I1 f1 h1 => kI_i (⟨b.1, ?_⟩))⟩)
  rw [f1 0 (q3 + 1).toNatClampNeg (Or.inr rfl)]
  exact m162 (by decide) hA (InvM_c hA (fun c j hc => f1 c j (Or.inl hc)) hM) (fun I2 J2 f2 h2 => kI_i ⟨fun _ => nx _ I2 J2 (AV_endR hA) (InvC_m f2 h1) h2, fun z => absurd rfl z⟩)
/-- works -/
theorem lc_262 (hA : AV A) (hC : InvC A I) (hM : InvM A I J) (b : LBd n q3) (nx : LNx n Q q3) : LAt n Q q3 I J 262 := by
  refine v0_262 (pj_D_le 100) I J q3 (c115 (by decide) hA hC (fun I1 f1 h1 => kI_i (?_)))
  exact m163 (by decide) hA (InvM_c hA (fun c j hc => f1 c j (Or.inl hc)) hM) (fun I2 J2 f2 h2 => kI_i ⟨fun _ => nx _ I2 J2 (AV_wks hA) (InvC_m f2 h1) h2, fun z => absurd rfl z⟩)
/-- fault -/
theorem lc_275 (hA : AV A) (hC : InvC A I) (hM : InvM A I J) (b : LBd n q3) (nx : LNx n Q q3) : LAt n Q q3 I J 275 := by
  refine v0_275 (pj_D_le 100) I J q3 ⟨b.1, s116 (by decide) (kI_i ⟨b.1, s200 (by decide) (kI_i ?_)⟩)⟩
  rw [hC.2.2.2.2.2.2.2.1.1, hC.2.2.2.2.2.2.2.1.2, hM.2.2.2.2.2.2.2.1.1, hM.2.2.2.2.2.2.2.1.2]
  exact ⟨fun _ => nx A I J hA hC hM, fun z => absurd rfl z⟩
/-- has -/
theorem lc_298 (hA : AV A) (hC : InvC A I) (hM : InvM A I J) (b : LBd n q3) (nx : LNx n Q q3) : LAt n Q q3 I J 298 := by
  refine v0_298 (pj_D_le 100) I J q3 (⟨b.1, c117 (by decide) hA hC (kI_i (⟨b.1, m205 (by decide) hA hM (kI_i ⟨fun _ => nx A I J hA hC hM, fun z => absurd rfl z⟩)⟩))⟩)
/-- letter -/
theorem lc_321 (hA : AV A) (hC : InvC A I) (hM : InvM A I J) (b : LBd n q3) (nx : LNx n Q q3) : LAt n Q q3 I J 321 := by
  refine v0_321 (pj_D_le 100) I J q3 (⟨b.1, ⟨b.2.1, ⟨b.2.2.1, c119 (by decide) hA hC (kI_i (⟨b.1, ⟨b.2.1, ⟨b.2.2.1, m210 (by decide) hA hM (kI_i ⟨fun _ => nx A I J hA hC hM, fun z => absurd rfl z⟩)⟩⟩⟩))⟩⟩⟩)
/-- coat -/
theorem lc_364 (hA : AV A) (hC : InvC A I) (hM : InvM A I J) (b : LBd n q3) (nx : LNx n Q q3) : LAt n Q q3 I J 364 := by
  obtain ⟨B, hB, hW⟩ := hM.2.1
  refine v0_364 (pj_D_le 100) I J q3 ⟨b.1, b.2.1, s123 (by decide) hC.2.1.1 hC.2.2.1 hA.2.2.2.1 (fun k hk e => kI_i ⟨b.1, b.2.1, ?_⟩) (fun hn => kI_i ⟨b.1, b.2.1, ?_⟩)⟩
  · refine s213 (by decide) hB hW.1 hM.2.2.1 hA.2.2.2.1 (fun k' hk' e' => kI_i ?_) (fun hn => absurd e (hn k hk))
    have h8 := hA.2.1
    have ek : k = k' := (nI_eq (by omega) (by omega)).mp (e.symm.trans e')
    subst ek
    exact ⟨fun _ => nx A I J hA hC hM, fun z => absurd rfl z⟩
  · exact s213 (by decide) hB hW.1 hM.2.2.1 hA.2.2.2.1 (fun k' hk' e' => absurd e' (hn k' hk')) (fun _ => kI_i ⟨fun _ => nx A I J hA hC hM, fun z => absurd rfl z⟩)
/-- man -/
theorem lc_397 (hA : AV A) (hC : InvC A I) (hM : InvM A I J) (b : LBd n q3) (nx : LNx n Q q3) : LAt n Q q3 I J 397 := by
  obtain ⟨B, hB, hW⟩ := hM.2.1
  refine v0_397 (pj_D_le 100) I J q3 ⟨b.1, b.2.1, s124 (by decide) hC.2.1.1 hC.2.2.1 (fun k hk e => kI_i ⟨b.1, b.2.1, ?_⟩) (fun hn => kI_i ⟨b.1, b.2.1, ?_⟩)⟩
  · refine s214 (by decide) hB hW.1 hM.2.2.1 (fun k' hk' e' => kI_i ?_) (fun hn => absurd e (hn k hk))
    have h7 := hA.2.2.1
    have ek : k = k' := (nI_eq (by omega) (by omega)).mp (e.symm.trans e')
    subst ek
    exact ⟨fun _ => nx A I J hA hC hM, fun z => absurd rfl z⟩
  · exact s214 (by decide) hB hW.1 hM.2.2.1 (fun k' hk' e' => absurd e' (hn k' hk')) (fun _ => kI_i ⟨fun _ => nx A I J hA hC hM, fun z => absurd rfl z⟩)
/-- warms -/
theorem lc_430 (hA : AV A) (hC : InvC A I) (hM : InvM A I J) (b : LBd n q3) (nx : LNx n Q q3) : LAt n Q q3 I J 430 := by
  refine v0_430 (pj_D_le 100) I J q3 (⟨b.1, ⟨b.2.1, c125 (by decide) hA hC (fun I1 f1 => kL_i (⟨b.1, ⟨b.2.1, ?_⟩⟩))⟩⟩)
  have f1 : pj_fr qC I I1 := pj_fr_w f1 (fun c j hc => cS_q hc)
  rw [f1 0 (q3 + 1).toNatClampNeg rfl]
  rw [f1 0 (q3 + 2).toNatClampNeg rfl]
  refine m215 (by decide) hA (InvM_c hA (fun c j hc => f1 c j (qC_m hc)) hM) (fun I2 J2 f2 j2 => kL_i ?_)
  rw [lg_cmp_eq]
  exact ⟨fun _ => nx A I2 J2 hA (InvC_m (fun c j hc => f2 c j (qM_c hc)) (InvC_q f1 hC)) (InvM_q hA f2 j2 (InvM_c hA (fun c j hc => f1 c j (qC_m hc)) hM)), fun z => absurd rfl z⟩
/-- later -/
theorem lc_464 (hA : AV A) (hC : InvC A I) (hM : InvM A I J) (b : LBd n q3) (nx : LNx n Q q3) : LAt n Q q3 I J 464 := by
  refine v0_464 (pj_D_le 100) I J q3 (⟨b.1, ⟨b.2.1, c126 (by decide) hA hC (fun I1 f1 => kI_i (⟨b.1, ⟨b.2.1, ?_⟩⟩))⟩⟩)
  rw [f1 0 (q3 + 1).toNatClampNeg rfl]
  rw [f1 0 (q3 + 2).toNatClampNeg rfl]
  exact m223 (by decide) hA (InvM_c hA (fun c j hc => f1 c j (qC_m hc)) hM) (fun I2 J2 f2 j2 => kI_i ⟨fun _ => nx A I2 J2 hA (InvC_m (fun c j hc => f2 c j (qM_c hc)) (InvC_q f1 hC)) (InvM_q hA f2 j2 (InvM_c hA (fun c j hc => f1 c j (qC_m hc)) hM)), fun z => absurd rfl z⟩)
/-- purse -/
theorem lc_497 (hA : AV A) (hC : InvC A I) (hM : InvM A I J) (b : LBd n q3) (nx : LNx n Q q3) : LAt n Q q3 I J 497 := by
  refine v0_497 (pj_D_le 100) I J q3 (⟨b.1, ⟨b.2.1, c129 (by decide) hA hC (fun I1 f1 => kI_i (⟨b.1, ⟨b.2.1, ?_⟩⟩))⟩⟩)
  rw [f1 0 (q3 + 1).toNatClampNeg rfl]
  rw [f1 0 (q3 + 2).toNatClampNeg rfl]
  exact m232 (by decide) hA (InvM_c hA (fun c j hc => f1 c j (qC_m hc)) hM) (fun I2 J2 f2 j2 => kI_i ⟨fun _ => nx A I2 J2 hA (InvC_m (fun c j hc => f2 c j (qM_c hc)) (InvC_q f1 hC)) (InvM_q hA f2 j2 (InvM_c hA (fun c j hc => f1 c j (qC_m hc)) hM)), fun z => absurd rfl z⟩)
/-- goes -/
theorem lc_530 (hA : AV A) (hC : InvC A I) (hM : InvM A I J) (b : LBd n q3) (nx : LNx n Q q3) : LAt n Q q3 I J 530 := by
  refine v0_530 (pj_D_le 100) I J q3 (⟨b.1, c130 (by decide) hA hC (fun I1 f1 => kI_i (⟨b.1, ?_⟩))⟩)
  rw [f1 0 (q3 + 1).toNatClampNeg rfl]
  exact m233 (by decide) hA (InvM_c hA (fun c j hc => f1 c j (qC_m hc)) hM) (fun I2 J2 f2 j2 => kI_i ⟨fun _ => nx A I2 J2 hA (InvC_m (fun c j hc => f2 c j (qM_c hc)) (InvC_q f1 hC)) (InvM_q hA f2 j2 (InvM_c hA (fun c j hc => f1 c j (qC_m hc)) hM)), fun z => absurd rfl z⟩)
/-- match -/
theorem lc_553 (hA : AV A) (hC : InvC A I) (hM : InvM A I J) (b : LBd n q3) (nx : LNx n Q q3) : LAt n Q q3 I J 553 := by
  refine v0_553 (pj_D_le 100) I J q3 (⟨b.1, c132 (by decide) hA hC (fun I1 f1 => kI_i (⟨b.1, ?_⟩))⟩)
  rw [f1 0 (q3 + 1).toNatClampNeg rfl]
  exact m235 (by decide) hA (InvM_c hA (fun c j hc => f1 c j (qC_m hc)) hM) (fun I2 J2 f2 j2 => kI_i ⟨fun _ => nx A I2 J2 hA (InvC_m (fun c j hc => f2 c j (qM_c hc)) (InvC_q f1 hC)) (InvM_q hA f2 j2 (InvM_c hA (fun c j hc => f1 c j (qC_m hc)) hM)), fun z => absurd rfl z⟩)
/-- glad -/
theorem lc_576 (hA : AV A) (hC : InvC A I) (hM : InvM A I J) (b : LBd n q3) (nx : LNx n Q q3) : LAt n Q q3 I J 576 := by
  refine v0_576 (pj_D_le 100) I J q3 (⟨b.1, c133 (by decide) hA hC (fun I1 f1 => kI_i (⟨b.1, ?_⟩))⟩)
  rw [f1 0 (q3 + 1).toNatClampNeg rfl]
  exact m238 (by decide) hA (InvM_c hA (fun c j hc => f1 c j (qC_m hc)) hM) (fun I2 J2 f2 j2 => kI_i ⟨fun _ => nx A I2 J2 hA (InvC_m (fun c j hc => f2 c j (qM_c hc)) (InvC_q f1 hC)) (InvM_q hA f2 j2 (InvM_c hA (fun c j hc => f1 c j (qC_m hc)) hM)), fun z => absurd rfl z⟩)
/-- passes -/
theorem lc_599 (hA : AV A) (hC : InvC A I) (hM : InvM A I J) (b : LBd n q3) (nx : LNx n Q q3) : LAt n Q q3 I J 599 := by
  refine v0_599 (pj_D_le 100) I J q3 (⟨b.1, ⟨b.2.1, ⟨b.2.2.1, c136 (by decide) hA hC (fun I1 f1 => kI_i (⟨b.1, ⟨b.2.1, ⟨b.2.2.1, ?_⟩⟩⟩))⟩⟩⟩)
  rw [f1 0 (q3 + 1).toNatClampNeg rfl]
  rw [f1 0 (q3 + 2).toNatClampNeg rfl]
  rw [f1 0 (q3 + 3).toNatClampNeg rfl]
  exact m239 (by decide) hA (InvM_c hA (fun c j hc => f1 c j (qC_m hc)) hM) (fun I2 J2 f2 j2 => kI_i ⟨fun _ => nx A I2 J2 hA (InvC_m (fun c j hc => f2 c j (qM_c hc)) (InvC_q f1 hC)) (InvM_q hA f2 j2 (InvM_c hA (fun c j hc => f1 c j (qC_m hc)) hM)), fun z => absurd rfl z⟩)
/-- waits -/
theorem lc_642 (hA : AV A) (hC : InvC A I) (hM : InvM A I J) (b : LBd n q3) (nx : LNx n Q q3) : LAt n Q q3 I J 642 := by
  refine v0_642 (pj_D_le 100) I J q3 (⟨b.1, ⟨b.2.1, c137 (by decide) hA hC (fun I1 f1 => kI_i (⟨b.1, ⟨b.2.1, ?_⟩⟩))⟩⟩)
  rw [f1 0 (q3 + 1).toNatClampNeg rfl]
  rw [f1 0 (q3 + 2).toNatClampNeg rfl]
  exact m242 (by decide) hA (InvM_c hA (fun c j hc => f1 c j (qC_m hc)) hM) (fun I2 J2 f2 j2 => kI_i ⟨fun _ => nx A I2 J2 hA (InvC_m (fun c j hc => f2 c j (qM_c hc)) (InvC_q f1 hC)) (InvM_q hA f2 j2 (InvM_c hA (fun c j hc => f1 c j (qC_m hc)) hM)), fun z => absurd rfl z⟩)
/-- called -/
theorem lc_675 (hA : AV A) (hC : InvC A I) (hM : InvM A I J) (b : LBd n q3) (nx : LNx n Q q3) : LAt n Q q3 I J 675 := by
  refine v0_675 (pj_D_le 100) I J q3 (⟨b.1, ⟨b.2.1, c138 (by decide) hA hC (fun I1 f1 => kI_i (⟨b.1, ⟨b.2.1, ?_⟩⟩))⟩⟩)
  rw [f1 0 (q3 + 1).toNatClampNeg rfl]
  rw [f1 0 (q3 + 2).toNatClampNeg rfl]
  exact m243 (by decide) hA (InvM_c hA (fun c j hc => f1 c j (qC_m hc)) hM) (fun I2 J2 f2 j2 => kI_i ⟨fun _ => nx A I2 J2 hA (InvC_m (fun c j hc => f2 c j (qM_c hc)) (InvC_q f1 hC)) (InvM_q hA f2 j2 (InvM_c hA (fun c j hc => f1 c j (qC_m hc)) hM)), fun z => absurd rfl z⟩)
/-- see -/
theorem lc_708 (hA : AV A) (hC : InvC A I) (hM : InvM A I J) (b : LBd n q3) (nx : LNx n Q q3) : LAt n Q q3 I J 708 := by
  refine v0_708 (pj_D_le 100) I J q3 (c139 (by decide) hA hC (fun I1 f1 h1 => kI_i (?_)))
  exact m244 (by decide) hA (InvM_c hA (fun c j hc => f1 c j (Or.inl hc)) hM) (fun I2 J2 f2 h2 => kI_i ⟨fun _ => nx _ I2 J2 (AV_seeR hA) (InvC_m f2 h1) h2, fun z => absurd rfl z⟩)
/-- had -/
theorem lc_721 (hA : AV A) (hC : InvC A I) (hM : InvM A I J) (b : LBd n q3) (nx : LNx n Q q3) : LAt n Q q3 I J 721 := by
  refine v0_721 (pj_D_le 100) I J q3 (⟨b.1, c140 (by decide) hA hC (fun I1 f1 => kI_i (⟨b.1, ?_⟩))⟩)
  rw [f1 0 (q3 + 1).toNatClampNeg rfl]
  exact m245 (by decide) hA (InvM_c hA (fun c j hc => f1 c j (qC_m hc)) hM) (fun I2 J2 f2 j2 => kI_i ⟨fun _ => nx A I2 J2 hA (InvC_m (fun c j hc => f2 c j (qM_c hc)) (InvC_q f1 hC)) (InvM_q hA f2 j2 (InvM_c hA (fun c j hc => f1 c j (qC_m hc)) hM)), fun z => absurd rfl z⟩)
/-- tells -/
theorem lc_744 (hA : AV A) (hC : InvC A I) (hM : InvM A I J) (b : LBd n q3) (nx : LNx n Q q3) : LAt n Q q3 I J 744 := by
  refine v0_744 (pj_D_le 100) I J q3 (⟨b.1, ⟨b.2.1, c141 (by decide) hA hC (fun I1 f1 => kI_i (⟨b.1, ⟨b.2.1, ?_⟩⟩))⟩⟩)
  rw [f1 0 (q3 + 1).toNatClampNeg rfl]
  rw [f1 0 (q3 + 2).toNatClampNeg rfl]
  exact m247 (by decide) hA (InvM_c hA (fun c j hc => f1 c j (qC_m hc)) hM) (fun I2 J2 f2 j2 => kI_i ⟨fun _ => nx A I2 J2 hA (InvC_m (fun c j hc => f2 c j (qM_c hc)) (InvC_q f1 hC)) (InvM_q hA f2 j2 (InvM_c hA (fun c j hc => f1 c j (qC_m hc)) hM)), fun z => absurd rfl z⟩)
/-- years -/
theorem lc_777 (hA : AV A) (hC : InvC A I) (hM : InvM A I J) (b : LBd n q3) (nx : LNx n Q q3) : LAt n Q q3 I J 777 := by
  refine v0_777 (pj_D_le 100) I J q3 (⟨b.1, c142 (by decide) hA hC (fun I1 f1 h1 => kI_i (⟨b.1, ?_⟩))⟩)
  rw [f1 0 (q3 + 1).toNatClampNeg (Or.inr rfl)]
  exact m249 (by decide) hA (InvM_c hA (fun c j hc => f1 c j (Or.inl hc)) hM) (fun I2 J2 f2 h2 => kI_i ⟨fun _ => nx _ I2 J2 (AV_yearsR hA) (InvC_m f2 h1) h2, fun z => absurd rfl z⟩)
/-- chance -/
theorem lc_800 (hA : AV A) (hC : InvC A I) (hM : InvM A I J) (b : LBd n q3) (nx : LNx n Q q3) : LAt n Q q3 I J 800 := by
  refine v0_800 (pj_D_le 100) I J q3 (⟨b.1, c144 (by decide) hA hC (fun I1 f1 h1 => kI_i (⟨b.1, ?_⟩))⟩)
  rw [f1 0 (q3 + 1).toNatClampNeg (Or.inr rfl)]
  exact m251 (by decide) hA (InvM_c hA (fun c j hc => f1 c j (Or.inl hc)) hM) (fun I2 J2 f2 h2 => kI_i ⟨fun _ => nx _ I2 J2 (AV_chanceR hA) (InvC_m f2 h1) h2, fun z => absurd rfl z⟩)
/-- pass -/
theorem lc_823 (hA : AV A) (hC : InvC A I) (hM : InvM A I J) (b : LBd n q3) (nx : LNx n Q q3) : LAt n Q q3 I J 823 := by
  refine v0_823 (pj_D_le 100) I J q3 (⟨b.1, ⟨b.2.1, c147 (by decide) hA hC (fun I1 f1 h1 => kI_i (⟨b.1, ⟨b.2.1, ?_⟩⟩))⟩⟩)
  rw [f1 0 (q3 + 1).toNatClampNeg (Or.inr rfl)]
  rw [f1 0 (q3 + 2).toNatClampNeg (Or.inr rfl)]
  exact m254 (by decide) hA (InvM_c hA (fun c j hc => f1 c j (Or.inl hc)) hM) (fun I2 J2 f2 h2 => kI_i ⟨fun _ => nx _ I2 J2 (AV_passR hA) (InvC_m f2 h1) h2, fun z => absurd rfl z⟩)
/-- put -/
theorem lc_856 (hA : AV A) (hC : InvC A I) (hM : InvM A I J) (b : LBd n q3) (nx : LNx n Q q3) : LAt n Q q3 I J 856 := by
  refine v0_856 (pj_D_le 100) I J q3 (⟨b.1, ⟨b.2.1, c148 (by decide) hA hC (fun I1 f1 h1 => kI_i (⟨b.1, ⟨b.2.1, ?_⟩⟩))⟩⟩)
  rw [f1 0 (q3 + 1).toNatClampNeg (Or.inr rfl)]
  rw [f1 0 (q3 + 2).toNatClampNeg (Or.inr rfl)]
  exact m255 (by decide) hA (InvM_c hA (fun c j hc => f1 c j (Or.inl hc)) hM) (fun I2 J2 f2 h2 => kI_i ⟨fun _ => nx _ I2 J2 (AV_putR hA) (InvC_m f2 h1) h2, fun z => absurd rfl z⟩)
/-- hang -/
theorem lc_889 (hA : AV A) (hC : InvC A I) (hM : InvM A I J) (b : LBd n q3) (nx : LNx n Q q3) : LAt n Q q3 I J 889 := by
  refine v0_889 (pj_D_le 100) I J q3 (⟨b.1, c150 (by decide) hA hC (fun I1 f1 h1 => kI_i (⟨b.1, ?_⟩))⟩)
  rw [f1 0 (q3 + 1).toNatClampNeg (Or.inr rfl)]
  exact m256 (by decide) hA (InvM_c hA (fun c j hc => f1 c j (Or.inl hc)) hM) (fun I2 J2 f2 h2 => kI_i ⟨fun _ => nx _ I2 J2 (AV_hangR hA) (InvC_m f2 h1) h2, fun z => absurd rfl z⟩)
/-- undo -/
theorem lc_912 (hA : AV A) (hC : InvC A I) (hM : InvM A I J) (b : LBd n q3) (nx : LNx n Q q3) : LAt n Q q3 I J 912 := by
  refine v0_912 (pj_D_le 100) I J q3 (c151 (by decide) hA hC (fun I1 f1 h1 => kI_i (?_)))
  exact m202 (by decide) hA (InvM_c hA (fun c j hc => f1 c j (Or.inl hc)) hM) (fun I2 J2 f2 h2 => kI_i ⟨fun _ => nx _ I2 J2 (AV_undoR hA) (InvC_m f2 h1) h2, fun z => absurd rfl z⟩)
/-- seed -/
theorem lc_925 (hA : AV A) (hC : InvC A I) (hM : InvM A I J) (b : LBd n q3) (nx : LNx n Q q3) : LAt n Q q3 I J 925 := by
  refine v0_925 (pj_D_le 100) I J q3 (⟨b.1, c152 (by decide) hC (fun I1 f1 h1 => kI_i (⟨b.1, ?_⟩))⟩)
  rw [f1 0 (q3 + 1).toNatClampNeg (Or.inr rfl)]
  exact m257 (by decide) hA (InvM_c hA (fun c j hc => f1 c j (Or.inl hc)) hM) (fun I2 J2 f2 h2 => kI_i ⟨fun _ => nx _ I2 J2 (AV_seedR hA) (InvC_m f2 h1) h2, fun z => absurd rfl z⟩)
/-- kept -/
theorem lc_948 (hA : AV A) (hC : InvC A I) (hM : InvM A I J) (b : LBd n q3) (nx : LNx n Q q3) : LAt n Q q3 I J 948 := by
  have h9 : A.kp.1 ≤ 999 := hC.2.2.2.1.1
  refine v0_948 (pj_D_le 100) I J q3 ⟨b.1, b.2.1, s153 (by decide) hC.2.2.2.1 (fun k hk e => kI_i ⟨b.1, b.2.1, ?_⟩) (fun hn => kI_i ⟨b.1, b.2.1, ?_⟩)⟩
  · refine s258 (by decide) hM.2.2.2.1 (fun k' hk' e' => kI_i ?_) (fun hn => absurd e (hn k hk))
    have ek : k = k' := (nI_eq (by have := tld_le A.kp.1; omega) (by have := tld_le A.kp.1; omega)).mp (e.symm.trans e')
    subst ek
    exact ⟨fun _ => nx A I J hA hC hM, fun z => absurd rfl z⟩
  · exact s258 (by decide) hM.2.2.2.1 (fun k' hk' e' => absurd e' (hn k' hk')) (fun _ => kI_i ⟨fun _ => nx A I J hA hC hM, fun z => absurd rfl z⟩)
/-- image -/
theorem lc_981 (hA : AV A) (hC : InvC A I) (hM : InvM A I J) (b : LBd n q3) (nx : LNx n Q q3) : LAt n Q q3 I J 981 := by
  refine v0_981 (pj_D_le 100) I J q3 (c154 (by decide) hA hC (fun I1 f1 h1 => kI_i (?_)))
  exact m259 (by decide) hA (InvM_c hA (fun c j hc => f1 c j (Or.inl hc)) hM) (fun I2 J2 f2 h2 => kI_i ⟨fun _ => nx _ I2 J2 (AV_imageR hA) (InvC_m f2 h1) h2, fun z => absurd rfl z⟩)
/-- octet -/
theorem lc_994 (hA : AV A) (hC : InvC A I) (hM : InvM A I J) (b : LBd n q3) (nx : LNx n Q q3) : LAt n Q q3 I J 994 := by
  have h61 : A.pc.1 ≤ 61 := hA.2.2.2.2.2.2.2.2.2.2.2.2.1
  refine v0_994 (pj_D_le 100) I J q3 ⟨b.1, s155 (by decide) hC.2.2.2.2.2.2.2.2.2.1.1 h61 (fun k hk e => kI_i ⟨b.1, ?_⟩) (fun hn => kI_i ⟨b.1, ?_⟩)⟩
  · refine s261 (by decide) hM.2.2.2.2.2.2.2.2.2.1 h61 (fun k' hk' e' => kI_i ?_) (fun hn => absurd e (hn k hk))
    have ek : k = k' := (nI_eq (by omega) (by omega)).mp (e.symm.trans e')
    subst ek
    rw [hC.2.2.2.2.2.2.2.2.2.1.2 k hk, hM.2.2.2.2.2.2.2.2.2.2 k hk]
    exact ⟨fun _ => nx A I J hA hC hM, fun z => absurd rfl z⟩
  · exact s261 (by decide) hM.2.2.2.2.2.2.2.2.2.1 h61 (fun k' hk' e' => absurd e' (hn k' hk')) (fun _ => kI_i ⟨fun _ => nx A I J hA hC hM, fun z => absurd rfl z⟩)
/-- on -/
theorem lc_1017 (hA : AV A) (hC : InvC A I) (hM : InvM A I J) (b : LBd n q3) (nx : LNx n Q q3) : LAt n Q q3 I J 1017 := by
  refine v0_1017 (pj_D_le 100) I J q3 (c156 (by decide) hA hC (fun I1 f1 h1 => kI_i (?_)))
  exact m262 (by decide) hA (InvM_c hA (fun c j hc => f1 c j (Or.inl hc)) hM) (fun I2 J2 f2 h2 => kI_i ⟨fun _ => nx _ I2 J2 (AV_onR hA) (InvC_m f2 h1) h2, fun z => absurd rfl z⟩)
/-- status -/
theorem lc_1030 (hA : AV A) (hC : InvC A I) (hM : InvM A I J) (b : LBd n q3) (nx : LNx n Q q3) : LAt n Q q3 I J 1030 := by
  refine v0_1030 (pj_D_le 100) I J q3 ⟨b.1, s157 (by decide) (fun k hk e => kI_i ⟨b.1, ?_⟩) (fun hn => kI_i ⟨b.1, ?_⟩)⟩
  · refine s201 (by decide) (fun k' hk' e' => kI_i ?_) (fun hn => absurd ?_ hn)
    · have ek : k = k' := (nI_eq (by omega) (by omega)).mp (e.symm.trans e')
      subst ek
      rw [hC.2.2.2.2.2.1 k hk, hM.2.2.2.2.2.1 k hk]
      exact ⟨fun _ => nx A I J hA hC hM, fun z => absurd rfl z⟩
    · rw [e]
      exact ⟨nI_pos' (by omega), nI_le (b := 5) (by omega) (by decide)⟩
  · refine s201 (by decide) (fun k' hk' e' => absurd ?_ hn) (fun _ => kI_i ⟨fun _ => nx A I J hA hC hM, fun z => absurd rfl z⟩)
    rw [e']
    exact ⟨nI_pos' (by omega), nI_le (b := 5) (by omega) (by decide)⟩
end PLc
