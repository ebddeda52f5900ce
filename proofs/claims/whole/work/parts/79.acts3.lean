/-! acts: chance of the reference; pass, put, hang, undo -/
section PA3
variable {n h : Nat} {Q : pj_K} {I : Nat → Nat → Int32} {J : Nat → Nat → Int64} {A : Ab}
/-- PegCoatsModel.chance -/
theorem m251 (hh : 8 ≤ h) {p : Int32} (hA : AV A) (hI : InvM A I J) (q : ∀ I' J', mF I I' → InvM (chanceR A p).1 I' J' → Q (some (.int (chanceR A p).2)) (zc n, I', J')) : pj_D h 251 [.ref 276, .int p] (zc n, I, J) Q := by
  refine pj_ent (g := 7) hh (t := mt_251) rfl rfl (v251_0 (pj_D_le 7) I J _ ?_)
  unfold chanceR at q
  refine s224 (by decide) (a := 1) (b := 40) hI.2.2.1.1 hA.2.2.2.1.1 (by decide) (by decide) (fun m h1 h2 h3 e => kI_i ⟨fun _ => ?_, fun z => absurd z (by decide)⟩) (fun z => kI_i ⟨fun z => absurd rfl z, fun _ => ?_⟩)
  · subst e
    rw [aw_s h1 h2 h3] at q
    refine m250 (by decide) hA hI (fun I1 f1 hI1 => kV_i ?_)
    have hP := AV_push hA
    suffices loop : ∀ r k I' J', r + k = m → mF I I' → InvM (chN A.push k).1 I' J' → pj_R (pj_D 7) ta mc_251 false Q 25 [some (.ref 276), some (.int (nI m)), some (.int (nI (chN A.push k).2)), some (.int (nI k))] [] (zc n) I' J' 0 0 from loop m 0 I1 J (by omega) f1 hI1
    intro r
    induction r with
    | zero =>
      intro k I' J' hk hf hI'
      obtain rfl : k = m := by omega
      exact v251_25 (pj_D_le 7) I' J' _ _ _ (br_t (nI_le (Nat.le_refl _) (by omega)) (q I' J' hf hI'))
    | succ r ih =>
      intro k I' J' hk hf hI'
      have e0 : A.push.L.yr = A.L.yr := rfl
      have v := chN_V hP (k := k) (by omega)
      have b := bu1_V v.1
      refine v251_25 (pj_D_le 7) I' J' _ _ _ (br_f (nI_ge (by omega) (by omega)) ?_)
      have nx : ∀ I3 J3, mF I I3 → InvM (bu1 (chN A.push k).1).1.yr1 I3 J3 → pj_R (pj_D 7) ta mc_251 false Q 25 [some (.ref 276), some (.int (nI m)), some (.int (nI ((chN A.push k).2 + (bu1 (chN A.push k).1).2))), some (.int (nI (k + 1)))] [] (zc n) I3 J3 0 0 := fun I3 J3 f3 hI3 => ih (k + 1) I3 J3 (by omega) f3 hI3
      have hy : (bu1 (chN A.push k).1).1.L.yr < 999 := by omega
      have hc := v.2.2
      generalize (chN A.push k).2 = ct at nx hc
      generalize (chN A.push k).1 = D at hI' v b nx hy
      have hD := v.1
      have hsd := hD.2.2.2.2.2.2.2.2.2.1
      have h8 := hD.2.1
      unfold bu1 at nx b hy
      refine s252 (by decide) (m := 100) hI'.2.2.2.2.2.2.1 hsd (by decide) (by decide) (kI_i ?_)
      have l1 := nxd_lt D.sd
      have l2 := nxd_lt (nxd D.sd)
      have fm : nxd D.sd / 64 % 100 < 100 := Nat.mod_lt _ (by decide)
      generalize eT : nxd (nxd D.sd) = t at nx b hy l2
      generalize nxd D.sd = s at eT nx b hy l1 fm
      have hI1 := InvM_sd (s := s) hI'
      have hA1 := AV_sS hD l1
      generalize pj_u J' 276 54 (lN s) = J1 at hI1
      obtain ⟨B, b1, b2⟩ := hI1.2.1
      have b2 : MW D.W B I' J1 := b2
      have hB2 := b2.1.2.2.1
      have iB := vp_in_nI (n := B) hB2 (by decide)
      have eB : (nI B).toNatClampNeg = B := nI_clamp (by omega)
      have ff : D.W.fire ≤ 100 := hD.1.2.1
      rw [b1, eB, b2.2.2.1, b2.1.2.2.2.1]
      refine ⟨iB, pk_le D.W.fire (s / 64 % 100) (fun c => ?_) (fun c => ⟨iB, ?_⟩)⟩
      · have e1 : bu2 D s t = (D.sS s, 0) := by unfold bu2; rw [if_pos c]
        rw [e1] at nx hy
        refine m226 (by decide) hA1 hI1 hy (fun I3 J3 f3 hI3 => kI_i ?_)
        rw [nI_1]
        exact nx I3 J3 (mF_tr hf f3) hI3
      · refine pk_le D.W.nc 0 (fun d => ?_) (fun d => ?_)
        · have e1 : bu2 D s t = (D.sS s, 0) := by unfold bu2; rw [if_neg (by omega), if_pos (by omega)]
          rw [e1] at nx hy
          refine m226 (by decide) hA1 hI1 hy (fun I3 J3 f3 hI3 => kI_i ?_)
          rw [nI_1]
          exact nx I3 J3 (mF_tr hf f3) hI3
        · have es : J1 276 54 = lN s := hI1.2.2.2.2.2.2.1
          have L1 : LM D.W 0 D.L I' := hI1.2.2.1
          have cl : t / 64 % D.W.nc < D.W.nc := Nat.mod_lt _ (by omega)
          have hI2 := InvM_sd (s := t) hI1
          have hA2 := AV_sS hA1 l2
          have bt : bu2 D s t = if D.L.bur (t / 64 % D.W.nc) = true then ((D.sS s).sS t, 0) else (((D.sS s).sS t).sL (D.L.burn (t / 64 % D.W.nc) (wr D.W D.L (t / 64 % D.W.nc))), 1) := by unfold bu2; rw [if_neg (by omega), if_neg (by omega)]
          rw [bt] at nx hy b
          refine s253 (by decide) (W := D.W) (L := D.L) b1 b2.1 L1 hD.2.2.2.1 es l1 d (fun eb => kI_i ?_) (fun eb I3 L3 f3 => kI_i ?_)
          · rw [eT] at eb ⊢
            rw [eb, if_pos rfl] at nx hy
            refine m226 (by decide) hA2 hI2 hy (fun I3 J3 f3 hI3 => kI_i ?_)
            have z0 : nI ct + 0 = nI (ct + 0) := nI_add ct 0
            rw [nI_1, z0]
            exact nx I3 J3 (mF_tr hf f3) hI3
          · rw [eT] at eb L3 ⊢
            rw [eb, if_neg (by decide)] at nx hy b
            have hI3 : InvM (((D.sS s).sS t).sL (D.L.burn (t / 64 % D.W.nc) (wr D.W D.L (t / 64 % D.W.nc)))) I3 (pj_u J1 276 54 (lN t)) := InvM_L hA2 hI2 f3 L3
            have m3 : mF I' I3 := fun c j hc => nS_m f3 c j (mS_f (by omega))
            refine m226 (by decide) b.1 hI3 hy (fun I4 J4 f4 hI4 => kI_i ?_)
            rw [nI_1, nI_1]
            exact nx I4 J4 (mF_tr (mF_tr hf m3) f4) hI4
  · rw [aw_n z] at q
    exact m160 (by decide) (k := 2) (by decide) hA hI (fun I1 f1 hI1 => kI_i (q I1 J f1 hI1))
theorem wo_not {W : Wk} {L : Ly} {m c : Nat} (h8 : W.nc ≤ 8) (hV : LV W L) (hm : m < W.nm) (e : L.wor m = some c) : ¬ wo (some c) = -1 := fun z => by
  have := LV_c hV hm e
  have := (wo_none (o := some c) (fun c' e' => by cases e'; omega)).mp z
  cases this
theorem lm_w {W : Wk} {L : Ly} {m : Nat} (hL : LM W 0 L I) (hm : m < W.nm) : I 304 m = wo (L.wor m) := by
  have := (hL.2.2.2.2 m hm).2.2.1
  rw [Nat.mul_zero, Nat.zero_add] at this
  exact this
/-- PegCoats.pass -/
theorem c147 (hh : 3 ≤ h) {p r : Int32} (hA : AV A) (hI : InvC A I) (q : ∀ I', cF I I' → InvC (passR A p r).1 I' → Q (some (.int (passR A p r).2)) (zc n, I', J)) : pj_D h 147 [.ref 2, .int p, .int r] (zc n, I, J) Q := by
  have h7 := hA.2.2.1
  have h8 := hA.2.1
  have hV := hA.2.2.2.1
  have hL := hI.2.2.1
  refine pj_ent (g := 2) hh (t := mt_147) rfl rfl (v147_0 (pj_D_le 2) I J _ _ ?_)
  have no : passR A p r = (A.ref 3, 0) → pj_D 2 114 [.ref 2, .int 3] (zc n, I, J) (kI n fun v1 I1 J1 => (v1 &&& 1 = v1 ∧ Q (some (.int v1)) (zc n, I1, J1))) := fun e => by
    rw [e] at q
    exact c114 (by decide) (k := 3) (by decide) hI (fun I1 f1 hI1 => kI_i ⟨by decide, q I1 f1 hI1⟩)
  refine ⟨fun e => no ?_, fun e => s131 (by decide) hI.2.1.1 hL (fun i hi ei ti => kI_i ⟨fun z => absurd z (by decide), fun _ => ?_⟩) (fun z => kI_i ⟨fun _ => no ?_, fun z => absurd rfl z⟩)⟩
  · subst e
    unfold passR
    cases tix A.W A.L p with
    | none => rfl
    | some i => simp only; rw [if_pos (Or.inl trivial)]
  · subst ei
    refine s131 (by decide) hI.2.1.1 hL (fun j hj ej tj => kI_i ⟨fun _ => ?_, fun z => absurd z (by decide)⟩) (fun z => kI_i ⟨fun z => absurd rfl z, fun _ => no ?_⟩)
    · subst ej
      have hij : i ≠ j := fun z => e (by rw [z])
      have pR : passR A (nI i) (nI j) = if i = j ∨ (A.L.wor i = none ∧ A.L.wor j = none) then (A.ref 3, 0) else (A.push.sL (A.L.chg i j), 1) := by
        unfold passR
        rw [tix_s h7 hi ti, tix_s h7 hj tj]
      rw [nI_clamp (n := i) (by omega), nI_clamp (n := j) (by omega), (hL.2.2 i hi).2.2.1, (hL.2.2 j hj).2.2.1]
      have go : ¬ (A.L.wor i = none ∧ A.L.wor j = none) → pj_D 2 10 [.ref 59, .ref 35] (zc n, I, J) (kV n fun I5 J5 => pj_D 2 79 [.ref 35, .int (nI i), .int (nI j)] (zc n, I5, J5) (kV n fun I6 J6 => Q (some (.int 1)) (zc n, I6, J6))) := fun nz => by
        rw [pR, if_neg (fun z => z.elim hij nz)] at q
        refine c10 (by decide) hA hI (fun I1 f1 hI1 => kV_i ?_)
        refine s79 (by decide) (W := A.W) (a := 35) (by decide) h8 h7 hI1.2.2.1 hV.2.1 (fun k c hk hc => (hV.2.2.2.1 k c hk hc).1) hi hj (fun I2 L2 f2 => kV_i ?_)
        have g2 : ∀ c j, c ≠ 40 → c ≠ 36 → I2 c j = I1 c j := fun c j h1 h2 => f2 c j (by
          show (c == 35 + 5 || c == 35 + 1) = false
          rw [beq_eq_false_iff_ne.mpr (by omega), beq_eq_false_iff_ne.mpr (by omega)]; rfl)
        exact q I2 (cF_tr f1 (fun c j hc => g2 c j (by omega) (by omega))) (InvC_L hI1 (fun c j hc _ => g2 c j (by omega) (by omega)) L2)
      refine ⟨pk_in i 7 (by omega), ?_⟩
      cases e1 : A.L.wor i with
      | some a => exact ⟨fun _ => go (fun z => by rw [e1] at z; cases z.1), fun z => absurd z (wo_not h8 hV hi e1)⟩
      | none =>
        refine ⟨fun z => absurd rfl z, fun _ => ⟨pk_in j 7 (by omega), ?_⟩⟩
        cases e2 : A.L.wor j with
        | some a => exact ⟨fun _ => go (fun z => by rw [e2] at z; cases z.2), fun z => absurd z (wo_not h8 hV hj e2)⟩
        | none => exact ⟨fun z => absurd rfl z, fun _ => no (by rw [pR, if_pos (Or.inr ⟨e1, e2⟩)])⟩
    · unfold passR
      rw [tix_s h7 hi ti, tix_n h7 z]
  · unfold passR
    rw [tix_n h7 z]
theorem AV_passR {p r : Int32} (hA : AV A) : AV (passR A p r).1 := by
  have h7 := hA.2.2.1
  unfold passR
  cases e1 : tix A.W A.L p with
  | none => exact hA
  | some i =>
    simp only
    cases e2 : tix A.W A.L r with
    | none => exact hA
    | some j =>
      simp only
      split
      · exact hA
      · rename_i z
        have key : ∀ (p : Int32) i, tix A.W A.L p = some i → i < A.W.nm ∧ A.L.the i = true := fun p i e => by
          unfold tix at e
          cases e3 : ix A.W.nm p with
          | none => rw [e3] at e; cases e
          | some k =>
            rw [e3] at e
            simp only at e
            unfold ix at e3
            split at e3
            · rename_i y
              split at e
              · rename_i x
                cases e
                cases e3
                exact ⟨y.2, x⟩
              · cases e
            · cases e3
        have a := key p i e1
        have b := key r j e2
        exact AV_sL (AV_push hA) (chg_LV hA.2.2.2.1 a.1 b.1 a.2 b.2 (fun y => z (Or.inl y))) (Nat.le_refl _)
/-- PegCoatsModel.pass -/
theorem m254 (hh : 4 ≤ h) {p r : Int32} (hA : AV A) (hI : InvM A I J) (q : ∀ I' J', mF I I' → InvM (passR A p r).1 I' J' → Q (some (.int (passR A p r).2)) (zc n, I', J')) : pj_D h 254 [.ref 276, .int p, .int r] (zc n, I, J) Q := by
  have h7 := hA.2.2.1
  have h8 := hA.2.1
  have hV := hA.2.2.2.1
  have hL := hI.2.2.1
  obtain ⟨B, b1, b2⟩ := hI.2.1
  refine pj_ent (g := 3) hh (t := mt_254) rfl rfl (v254_0 (pj_D_le 3) I J _ _ ?_)
  have no : passR A p r = (A.ref 3, 0) → pj_D 3 160 [.ref 276, .int 3] (zc n, I, J) (kI n fun v2 I2 J2 => ((v2 < 0 → Q (some (.int 0)) (zc n, I2, J2)) ∧ (¬ v2 < 0 → Q (some (.int 1)) (zc n, I2, J2)))) := fun e => by
    rw [e] at q
    exact m160 (by decide) (k := 3) (by decide) hA hI (fun I1 f1 hI1 => kI_i ⟨fun _ => q I1 J f1 hI1, fun z => absurd (by decide) z⟩)
  refine s234 (by decide) b1 b2.1 hL (fun i hi ei ti => kI_i ⟨fun z => absurd z (by decide), fun _ => ?_⟩) (fun z => kI_i ⟨fun _ => no ?_, fun z => absurd rfl z⟩)
  · subst ei
    refine s234 (by decide) b1 b2.1 hL (fun j hj ej tj => kI_i ⟨fun z => absurd z (by decide), fun _ => ?_⟩) (fun z => kI_i ⟨fun _ => no ?_, fun z => absurd rfl z⟩)
    · subst ej
      have pR : passR A (nI i) (nI j) = if i = j ∨ (A.L.wor i = none ∧ A.L.wor j = none) then (A.ref 3, 0) else (A.push.sL (A.L.chg i j), 1) := by
        unfold passR
        rw [tix_s h7 hi ti, tix_s h7 hj tj]
      refine ⟨fun e => no (by rw [pR, if_pos (Or.inl ((nI_eq (by omega) (by omega)).mp e))]), fun e => ?_⟩
      have hij : i ≠ j := fun z => e (by rw [z])
      rw [nI_clamp (n := i) (by omega), nI_clamp (n := j) (by omega), lm_w hL hi, lm_w hL hj]
      have go : ¬ (A.L.wor i = none ∧ A.L.wor j = none) → pj_D 3 250 [.ref 276] (zc n, I, J) (kV n fun I6 J6 => pj_D 3 241 [.ref 276, .int 0, .int (nI i), .int (nI j)] (zc n, I6, J6) (kV n fun I7 J7 => Q (some (.int 1)) (zc n, I7, J7))) := fun nz => by
        rw [pR, if_neg (fun z => z.elim hij nz)] at q
        refine m250 (by decide) hA hI (fun I1 f1 hI1 => kV_i ?_)
        refine s241 (by decide) (W := A.W) (v := 0) (by decide) h8 h7 hI1.2.2.1 hV hi hj hij (fun I2 L2 f2 => kV_i ?_)
        exact q I2 J (mF_tr f1 (fun c j hc => nS_m f2 c j (mS_f (by omega)))) (InvM_L (AV_push hA) hI1 f2 L2)
      refine ⟨pk_in i 154 (by omega), ?_⟩
      cases e1 : A.L.wor i with
      | some a => exact ⟨fun _ => go (fun z => by rw [e1] at z; cases z.1), fun z => absurd z (wo_not h8 hV hi e1)⟩
      | none =>
        refine ⟨fun z => absurd rfl z, fun _ => ⟨pk_in j 154 (by omega), ?_⟩⟩
        cases e2 : A.L.wor j with
        | some a => exact ⟨fun _ => go (fun z => by rw [e2] at z; cases z.2), fun z => absurd z (wo_not h8 hV hj e2)⟩
        | none => exact ⟨fun z => absurd rfl z, fun _ => no (by rw [pR, if_pos (Or.inr ⟨e1, e2⟩)])⟩
    · unfold passR
      rw [tix_s h7 hi ti, tix_n h7 z]
  · unfold passR
    rw [tix_n h7 z]
/-- PegCoats.put -/
theorem c148 (hh : 3 ≤ h) {p r : Int32} (hA : AV A) (hI : InvC A I) (q : ∀ I', cF I I' → InvC (putR A p r).1 I' → Q (some (.int (putR A p r).2)) (zc n, I', J)) : pj_D h 148 [.ref 2, .int p, .int r] (zc n, I, J) Q := by
  have h7 := hA.2.2.1
  have h8 := hA.2.1
  have hV := hA.2.2.2.1
  have hL := hI.2.2.1
  refine pj_ent (g := 2) hh (t := mt_148) rfl rfl (v148_0 (pj_D_le 2) I J _ _ ?_)
  have no : putR A p r = (A.ref 3, 0) → pj_D 2 114 [.ref 2, .int 3] (zc n, I, J) (kI n fun v1 I1 J1 => (v1 &&& 1 = v1 ∧ Q (some (.int v1)) (zc n, I1, J1))) := fun e => by
    rw [e] at q
    exact c114 (by decide) (k := 3) (by decide) hI (fun I1 f1 hI1 => kI_i ⟨by decide, q I1 f1 hI1⟩)
  refine s131 (by decide) hI.2.1.1 hL (fun i hi ei ti => kI_i ⟨fun z => absurd z (by decide), fun _ => ⟨by rw [ei]; exact pk_in i 7 (by omega), ?_⟩⟩) (fun z => kI_i ⟨fun _ => no ?_, fun z => absurd rfl z⟩)
  · subst ei
    rw [nI_clamp (n := i) (by omega), (hL.2.2 i hi).2.2.1]
    unfold putR at q no
    rw [tix_s h7 hi ti] at q no
    simp only at q no
    cases e1 : A.L.wor i with
    | some a =>
      rw [e1] at no
      exact ⟨fun _ => no rfl, fun z => absurd z (wo_not h8 hV hi e1)⟩
    | none =>
      rw [e1] at q no
      simp only at q no
      refine ⟨fun z => absurd rfl z, fun _ => s120 (by decide) hI.2.1.1.2.2.1 h8 (fun c hc ec => kI_i ⟨fun z => absurd z (by decide), fun _ => ?_⟩) (fun z => kI_i ⟨fun _ => no ?_, fun z => absurd rfl z⟩)⟩
      · subst ec
        rw [ix_s hc (by omega)] at q no
        simp only at q no
        refine s149 (by decide) hI.2.1.1 hL hV hc (kI_i ?_)
        show (¬ bi (peg A.W A.L c) = 0 → _) ∧ (bi (peg A.W A.L c) = 0 → _)
        cases e2 : peg A.W A.L c with
        | false =>
          rw [e2] at no
          exact ⟨fun z => absurd rfl z, fun _ => no rfl⟩
        | true =>
          rw [e2] at q
          refine ⟨fun _ => c10 (by decide) hA hI (fun I1 f1 hI1 => kV_i ?_), fun z => absurd z (by decide)⟩
          refine s78 (by decide) (W := A.W) (a := 35) (o := some c) (by decide) h8 h7 hI1.2.2.1 hV.2.1 hi (fun d ed => by cases ed; exact hc) (fun I2 L2 f2 => kV_i ?_)
          have g2 : ∀ c j, c ≠ 40 → c ≠ 36 → I2 c j = I1 c j := fun c j h1 h2 => f2 c j (by
            show (c == 35 + 5 || c == 35 + 1) = false
            rw [beq_eq_false_iff_ne.mpr (by omega), beq_eq_false_iff_ne.mpr (by omega)]; rfl)
          exact q I2 (cF_tr f1 (fun c j hc => g2 c j (by omega) (by omega))) (InvC_L hI1 (fun c j hc _ => g2 c j (by omega) (by omega)) L2)
      · rw [ix_n (by omega) z]
  · unfold putR
    rw [tix_n h7 z]
/-- PegCoatsModel.put -/
theorem m255 (hh : 4 ≤ h) {p r : Int32} (hA : AV A) (hI : InvM A I J) (q : ∀ I' J', mF I I' → InvM (putR A p r).1 I' J' → Q (some (.int (putR A p r).2)) (zc n, I', J')) : pj_D h 255 [.ref 276, .int p, .int r] (zc n, I, J) Q := by
  have h7 := hA.2.2.1
  have h8 := hA.2.1
  have hV := hA.2.2.2.1
  have hL := hI.2.2.1
  obtain ⟨B, b1, b2⟩ := hI.2.1
  refine pj_ent (g := 3) hh (t := mt_255) rfl rfl (v255_0 (pj_D_le 3) I J _ _ ?_)
  have no : putR A p r = (A.ref 3, 0) → pj_D 3 160 [.ref 276, .int 3] (zc n, I, J) (kI n fun v2 I2 J2 => ((v2 < 0 → Q (some (.int 0)) (zc n, I2, J2)) ∧ (¬ v2 < 0 → Q (some (.int 1)) (zc n, I2, J2)))) := fun e => by
    rw [e] at q
    exact m160 (by decide) (k := 3) (by decide) hA hI (fun I1 f1 hI1 => kI_i ⟨fun _ => q I1 J f1 hI1, fun z => absurd (by decide) z⟩)
  refine s234 (by decide) b1 b2.1 hL (fun i hi ei ti => kI_i ⟨fun z => absurd z (by decide), fun _ => ⟨by rw [ei]; exact pk_in i 154 (by omega), ?_⟩⟩) (fun z => kI_i ⟨fun _ => no ?_, fun z => absurd rfl z⟩)
  · subst ei
    rw [nI_clamp (n := i) (by omega), lm_w hL hi]
    unfold putR at q no
    rw [tix_s h7 hi ti] at q no
    simp only at q no
    cases e1 : A.L.wor i with
    | some a =>
      rw [e1] at no
      exact ⟨fun _ => no rfl, fun z => absurd z (wo_not h8 hV hi e1)⟩
    | none =>
      rw [e1] at q no
      simp only at q no
      refine ⟨fun z => absurd rfl z, fun _ => s211 (by decide) b1 b2.1.2.2.1 b2.1.2.2.2.1 h8 (fun c hc ec => kI_i ⟨fun z => absurd z (by decide), fun _ => ?_⟩) (fun z => kI_i ⟨fun _ => no ?_, fun z => absurd rfl z⟩)⟩
      · subst ec
        rw [ix_s hc (by omega)] at q no
        simp only at q no
        refine s208p (by decide) (v := 0) (by decide) b1 b2.1 hL hV hc (kI_i ?_)
        cases e2 : peg A.W A.L c with
        | false =>
          rw [e2] at no
          exact ⟨fun z => absurd rfl z, fun _ => no rfl⟩
        | true =>
          rw [e2] at q
          refine ⟨fun _ => m250 (by decide) hA hI (fun I1 f1 hI1 => kV_i ?_), fun z => absurd z (by decide)⟩
          refine s230 (by decide) (W := A.W) (v := 0) (o := some c) (by decide) h8 h7 hI1.2.2.1 hV.2.1 (fun k c hk hc => (hV.2.2.2.1 k c hk hc).1) hi (fun d ed => by cases ed; exact hc) (fun d _ z => by rw [show A.push.L.wor i = A.L.wor i from rfl, e1] at z; cases z) (fun I2 L2 f2 => kV_i ?_)
          exact q I2 J (mF_tr f1 (fun c j hc => nS_m f2 c j (mS_f (by omega)))) (InvM_L (AV_push hA) hI1 f2 L2)
      · rw [ix_n (by omega) z]
  · unfold putR
    rw [tix_n h7 z]
end PA3
