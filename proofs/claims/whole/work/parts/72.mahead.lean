/-! years ahead: the reference -/
section PMh
variable {n h : Nat} {Q : pj_K} {I : Nat → Nat → Int32} {J : Nat → Nat → Int64} {A : Ab}
theorem KM_cp {v w m : Nat} {f : Nat → Nat × Nat × Nat} {I' : Nat → Nat → Int32} (hc : mcp v w (tld m) I I') (h : KM w m f I) : KM v m f I' := by
  obtain ⟨-, -, -, c4, -, -, -, -, -, c10, -⟩ := hc
  refine ⟨c4.trans h.1, fun i hi => ⟨?_, ?_, ?_⟩⟩
  · rw [c10 (3 * i) (by omega)]; exact (h.2 i hi).1
  · rw [Nat.add_assoc, c10 (3 * i + 1) (by omega)]; exact (h.2 i hi).2.1
  · rw [Nat.add_assoc, c10 (3 * i + 2) (by omega)]; exact (h.2 i hi).2.2
theorem tS_q {c j : Nat} (h : qM c j = false) : tS 1 c j = false := by
  unfold qM at h
  simp only [Bool.or_eq_false_iff] at h
  unfold tS
  rw [h.1.1.1.1.1, h.1.1.1.1.2]
  rfl
theorem mS_q {c j : Nat} (h : qM c j = false) : mS 1 c j = false := by
  unfold qM at h
  simp only [Bool.or_eq_false_iff] at h
  exact h.1.1.1.1.1
theorem aS_q {c j : Nat} (h : qM c j = false) : aS c j = false := by
  unfold qM at h
  simp only [Bool.or_eq_false_iff] at h
  exact h.1.1.1.1.2
theorem mcp_q {w m : Nat} {I' : Nat → Nat → Int32} (h : mcp 1 w m I I') : pj_fr qM I I' := pj_fr_w h.2.2.2.2.2.2.2.2.2.2 (fun c j hc => mS_q hc)
/-- one more year of what is tried -/
theorem tick1 (hh : 6 ≤ h) {w : Option Nat} {L : Ly} {m0 : Nat} {f : Nat → Nat × Nat × Nat} {I' : Nat → Nat → Int32} {J' : Nat → Nat → Int64} (hw : ∀ k, w = some k → k < 2 ^ 31) (hA : AV A) (hI : InvM A I J) (hf : pj_fr qM I I') (hj : pj_fr sS J J') (hL : LM A.W 1 L I') (hLV : LV A.W L) (hK : KM 1 m0 f I') (q : ∀ I2 J2 f2, pj_fr qM I I2 → pj_fr sS J J2 → LM A.W 1 (yea A.W w L) I2 → KM 1 (m0 + 1) f2 I2 → Q (some (.int (nI (y3 A.W w L).2))) (zc n, I2, J2)) : pj_D h 226 [.ref 276, .int 1, .int (wo w)] (zc n, I', J') Q := by
  have hI' := InvM_q hA hf hj hI
  obtain ⟨B, b1, b2⟩ := hI'.2.1
  exact s226 hh (v := 1) hw (by decide) b1 b2 hA.1 hL hLV hK (fun I2 J2 f2 j2 L2 K2 => q I2 J2 _ (pj_fr_tr hf (pj_fr_w f2 (fun c j hc => tS_q hc))) (pj_fr_tr hj j2) L2 K2)
/-- what is tried, laid from now -/
theorem try0 (hh : 1 ≤ h) {I0 : Nat → Nat → Int32} {J0 : Nat → Nat → Int64} (hA : AV A) (hI : InvM A I0 J0) (hf : pj_fr qM I0 I) (hj : pj_fr sS J0 J) (q : ∀ I', pj_fr qM I0 I' → LM A.W 1 A.L I' → KM 1 A.kp.1 A.kp.2 I' → Q none (zc n, I', J)) : pj_D h 204 [.ref 276, .int 1, .int 0] (zc n, I, J) Q := by
  have hI' := InvM_q hA hf hj hI
  obtain ⟨-, -, l1, k1, -⟩ := hI'
  exact s204 hh (v := 1) (w := 0) (by decide) (by decide) (by decide) k1.1 (tld_le _).2 (fun I1 hc => q I1 (pj_fr_tr hf (mcp_q hc)) (LM_cp hA.2.1 hA.2.2.1 hc l1) (KM_cp hc k1))
/-- PegCoatsModel.tries -/
theorem s225 (hh : 7 ≤ h) {m : Nat} (hA : AV A) (hI : InvM A I J) (hm : m ≤ 40) (hy : A.L.yr + m ≤ 999) (q : ∀ I' J', pj_fr qM I I' → pj_fr sS J J' → LM A.W 1 (yN A.W A.L m) I' → Q none (zc n, I', J')) : pj_D h 225 [.ref 276, .int (nI m)] (zc n, I, J) Q := by
  refine pj_ent (g := 6) hh (t := mt_225) rfl rfl (v225_0 (pj_D_le 6) I J _ ?_)
  refine try0 (by decide) hA hI pj_fr_rf pj_fr_rf (fun I1 f1 l1 k1 => kV_i ?_)
  suffices loop : ∀ r k I' J' m0 f, r + k = m → pj_fr qM I I' → pj_fr sS J J' → LM A.W 1 (yN A.W A.L k) I' → KM 1 m0 f I' → pj_R (pj_D 6) ta mc_225 false Q 8 [some (.ref 276), some (.int (nI m)), some (.int (nI k))] [] (zc n) I' J' 0 0 from
    loop m 0 I1 J _ _ (by omega) f1 pj_fr_rf l1 k1
  intro r
  induction r with
  | zero =>
    intro k I' J' m0 f hk hf hj hL hK
    obtain rfl : k = m := by omega
    exact v225_8 (pj_D_le 6) I' J' _ _ (br_t (nI_le (Nat.le_refl _) (by omega)) (q I' J' hf hj hL))
  | succ r ih =>
    intro k I' J' m0 f hk hf hj hL hK
    have v := yN_V hA.2.2.2.1 (k := k) (by omega)
    refine v225_8 (pj_D_le 6) I' J' _ _ (br_f (nI_ge (by omega) (by omega)) ?_)
    refine tick1 (by decide) (w := none) (fun k z => by cases z) hA hI hf hj hL v.1 hK (fun I2 J2 f2 hf2 hj2 L2 K2 => kI_i ?_)
    rw [nI_1]
    exact ih (k + 1) I2 J2 _ f2 (by omega) hf2 hj2 L2 K2
/-- PegCoatsModel.later, purse -/
theorem m223 (hh : 8 ≤ h) {p r : Int32} (hA : AV A) (hI : InvM A I J) (q : ∀ I' J', pj_fr qM I I' → pj_fr sS J J' → Q (some (.int (laterV A p r))) (zc n, I', J')) : pj_D h 223 [.ref 276, .int p, .int r] (zc n, I, J) Q := by
  have h7 := hA.2.2.1
  obtain ⟨B, b1, b2⟩ := hI.2.1
  refine pj_ent (g := 7) hh (t := mt_223) rfl rfl (v223_0 (pj_D_le 7) I J _ _ ?_)
  unfold laterV at q
  refine s212 (by decide) b1 b2.1.2.2.1 b2.1.2.2.2.2.1 h7 (fun k hk e => kI_i ⟨fun z => absurd z (by decide), fun _ => ?_⟩) (fun z => kI_i ⟨fun _ => ?_, fun z => absurd rfl z⟩)
  · subst e
    rw [ix_s hk (by omega)] at q
    refine s224 (by decide) (a := 0) (b := 40) hI.2.2.1.1 hA.2.2.2.1.1 (by decide) (by decide) (fun m h1 h2 h3 e => kI_i ⟨fun _ => ?_, fun z => absurd z (by decide)⟩) (fun z => kI_i ⟨fun z => absurd rfl z, fun _ => ?_⟩)
    · subst e
      rw [aw_s h1 h2 h3] at q
      have e7 : (7 : Int32) + nI k = nI (7 + k) := nI_add 7 k
      rw [e7, nI_clamp (n := 7 + k) (by omega)]
      refine s225 (Nat.le_refl 7) hA hI h2 h3 (fun I' J' hf hj L' => kV_i ⟨pk_in (7 + k) 154 (by omega), ?_⟩)
      have := (L'.2.2.2.2 k hk).2.2.1
      rw [show 7 * 1 + k = 7 + k by omega] at this
      rw [this]
      exact q I' J' hf hj
    · rw [aw_n z] at q
      exact q I J pj_fr_rf pj_fr_rf
  · rw [ix_n (by omega) z] at q
    exact q I J pj_fr_rf pj_fr_rf
theorem m232 (hh : 8 ≤ h) {p r : Int32} (hA : AV A) (hI : InvM A I J) (q : ∀ I' J', pj_fr qM I I' → pj_fr sS J J' → Q (some (.int (purseV A p r))) (zc n, I', J')) : pj_D h 232 [.ref 276, .int p, .int r] (zc n, I, J) Q := by
  have h7 := hA.2.2.1
  obtain ⟨B, b1, b2⟩ := hI.2.1
  refine pj_ent (g := 7) hh (t := mt_232) rfl rfl (v232_0 (pj_D_le 7) I J _ _ ?_)
  unfold purseV at q
  refine s212 (by decide) b1 b2.1.2.2.1 b2.1.2.2.2.2.1 h7 (fun k hk e => kI_i ⟨fun z => absurd z (by decide), fun _ => ?_⟩) (fun z => kI_i ⟨fun _ => ?_, fun z => absurd rfl z⟩)
  · subst e
    rw [ix_s hk (by omega)] at q
    refine s224 (by decide) (a := 0) (b := 40) hI.2.2.1.1 hA.2.2.2.1.1 (by decide) (by decide) (fun m h1 h2 h3 e => kI_i ⟨fun _ => ?_, fun z => absurd z (by decide)⟩) (fun z => kI_i ⟨fun z => absurd rfl z, fun _ => ?_⟩)
    · subst e
      rw [aw_s h1 h2 h3] at q
      have e7 : (7 : Int32) + nI k = nI (7 + k) := nI_add 7 k
      rw [e7, nI_clamp (n := 7 + k) (by omega)]
      refine s225 (Nat.le_refl 7) hA hI h2 h3 (fun I' J' hf hj L' => kV_i ⟨pk_in (7 + k) 154 (by omega), ?_⟩)
      have := (L'.2.2.2.2 k hk).2.2.2
      rw [show 7 * 1 + k = 7 + k by omega] at this
      rw [this]
      exact q I' J' hf hj
    · rw [aw_n z] at q
      exact q I J pj_fr_rf pj_fr_rf
  · rw [ix_n (by omega) z] at q
    exact q I J pj_fr_rf pj_fr_rf
/-- PegCoatsModel.goes -/
theorem m233 (hh : 7 ≤ h) {p : Int32} (hA : AV A) (hI : InvM A I J) (q : ∀ I' J', pj_fr qM I I' → pj_fr sS J J' → Q (some (.int (goesV A p))) (zc n, I', J')) : pj_D h 233 [.ref 276, .int p] (zc n, I, J) Q := by
  have h7 := hA.2.2.1
  obtain ⟨B, b1, b2⟩ := hI.2.1
  refine pj_ent (g := 6) hh (t := mt_233) rfl rfl (v233_0 (pj_D_le 6) I J _ ?_)
  unfold goesV at q
  refine s234 (by decide) b1 b2.1 hI.2.2.1 (fun m hm e ht => kI_i ⟨fun _ => ?_, fun z => absurd z (by decide)⟩) (fun z => kI_i ⟨fun z => absurd rfl z, fun _ => ?_⟩)
  · subst e
    rw [tix_s h7 hm ht] at q
    simp only at q
    refine try0 (by decide) hA hI pj_fr_rf pj_fr_rf (fun I1 f1 l1 k1 => kV_i ?_)
    suffices loop : ∀ r k I' J' m0 f, r + k = 40 → pj_fr qM I I' → pj_fr sS J J' → A.L.yr + k ≤ 999 → LM A.W 1 (yN A.W A.L k) I' → KM 1 m0 f I' → (∀ I' J', pj_fr qM I I' → pj_fr sS J J' → Q (some (.int (wo (gsN A.W A.L m r k)))) (zc n, I', J')) → pj_R (pj_D 6) ta mc_233 false Q 18 [some (.ref 276), some (.int (nI m)), some (.int (nI k))] [] (zc n) I' J' 0 0 from
      loop 40 0 I1 J _ _ (by omega) f1 pj_fr_rf hA.2.2.2.1.1 l1 k1 q
    intro r
    induction r with
    | zero =>
      intro k I' J' m0 f hk hf hj hy hL hK q
      obtain rfl : k = 40 := by omega
      have hI' := InvM_q hA hf hj hI
      refine v233_18 (pj_D_le 6) I' J' _ _ ?_
      rw [nI_1]
      refine s224 (by decide) (a := 1) (b := 40) hI'.2.2.1.1 hA.2.2.2.1.1 (by decide) (by decide) (fun m h1 h2 h3 e => ?_) (fun z => kI_i ⟨fun _ => q I' J' hf hj, fun z => absurd rfl z⟩)
      have := (nI_eq (by decide) (by omega)).mp e
      omega
    | succ r ih =>
      intro k I' J' m0 f hk hf hj hy hL hK q
      have v := yN_V hA.2.2.2.1 (k := k) hy
      have hI' := InvM_q hA hf hj hI
      refine v233_18 (pj_D_le 6) I' J' _ _ ?_
      rw [nI_1]
      unfold gsN at q
      refine s224 (by decide) (a := 1) (b := 40) hI'.2.2.1.1 hA.2.2.2.1.1 (by decide) (by decide) (fun t h1 h2 h3 e => kI_i ⟨fun z => absurd z (by decide), fun _ => ?_⟩) (fun z => kI_i ⟨fun _ => ?_, fun z => absurd rfl z⟩)
      · have := (nI_eq (by omega) (by omega)).mp e
        subst this
        rw [if_pos (by omega)] at q
        refine tick1 (by decide) (w := none) (fun k z => by cases z) hA hI hf hj hL v.1 hK (fun I2 J2 f2 hf2 hj2 L2 K2 => kI_i ?_)
        have L3 : LM A.W 1 (yN A.W A.L (k + 1)) I2 := L2
        obtain ⟨G, g1, g2, g3⟩ := L3.2.2.1
        refine s206 (by decide) (v := 1) (by decide) g1 (by omega) (by omega) (kI_i ?_)
        rw [g3 m hm, Bool.not_not]
        cases e : (yN A.W A.L (k + 1)).the m with
        | true =>
          rw [e, if_pos rfl] at q
          exact ⟨fun _ => ih (k + 1) I2 J2 _ f2 (by omega) hf2 hj2 (by omega) L3 K2 q, fun z => absurd z (by decide)⟩
        | false =>
          rw [e, if_neg (by decide)] at q
          exact ⟨fun z => absurd rfl z, fun _ => q I2 J2 hf2 hj2⟩
      · rw [if_neg (fun c => z (k + 1) (by omega) (by omega) (by omega) rfl)] at q
        exact q I' J' hf hj
  · rw [tix_n h7 z] at q
    exact q I J pj_fr_rf pj_fr_rf
/-- PegCoatsModel.waits -/
theorem m242 (hh : 7 ≤ h) {p r : Int32} (hA : AV A) (hI : InvM A I J) (q : ∀ I' J', pj_fr qM I I' → pj_fr sS J J' → Q (some (.int (waitsV A p r))) (zc n, I', J')) : pj_D h 242 [.ref 276, .int p, .int r] (zc n, I, J) Q := by
  have h7 := hA.2.2.1
  have hV := hA.2.2.2.1
  have hL := hI.2.2.1
  obtain ⟨B, b1, b2⟩ := hI.2.1
  refine pj_ent (g := 6) hh (t := mt_242) rfl rfl (v242_0 (pj_D_le 6) I J _ _ ?_)
  unfold waitsV at q
  refine s234 (by decide) b1 b2.1 hI.2.2.1 (fun m hm e ht => kI_i ⟨fun z => absurd z (by decide), fun _ => ⟨by rw [e]; exact pk_in m 154 (by omega), ?_⟩⟩) (fun z => kI_i ⟨fun _ => ?_, fun z => absurd rfl z⟩)
  · subst e
    rw [tix_s h7 hm ht] at q
    simp only at q
    have l3 := (hL.2.2.2.2 m hm).2.2.1
    rw [Nat.mul_zero, Nat.zero_add] at l3
    rw [nI_clamp (n := m) (by omega), l3]
    have hwn := wo_none (o := A.L.wor m) (fun c' e' => by have := (hV.2.2.2.1 m c' hm e').1; have := hA.2.1; omega)
    cases ew : A.L.wor m with
    | some c =>
      rw [ew] at q hwn
      exact ⟨fun _ => q I J pj_fr_rf pj_fr_rf, fun z => (by have := hwn.mp z; cases this)⟩
    | none =>
      rw [ew] at q
      simp only at q
      refine ⟨fun z => absurd rfl z, fun _ => ?_⟩
      refine s224 (by decide) (a := 1) (b := 20) hI.2.2.1.1 hV.1 (by decide) (by decide) (fun t h1 h2 h3 e => kI_i ⟨fun _ => ?_, fun z => absurd z (by decide)⟩) (fun z => kI_i ⟨fun z => absurd rfl z, fun _ => ?_⟩)
      · subst e
        rw [aw_s h1 h2 h3] at q
        simp only at q
        have pub : ∀ u k, A.L.yr + k ≤ 999 → (yU A.W A.L m u k).pur m ≤ 9999 := fun u k hk => ((yU_V (m := m) (u := u) hV hk).1.2.2.1 m hm).2.2.2
        have fub : ∀ u f, (wtN A.W A.L m t u).2 = some f → f ≤ 9999 := by
          intro u
          induction u with
          | zero => intro f e; cases e
          | succ u ih =>
            intro f e
            unfold wtN at e
            cases e2 : (wtN A.W A.L m t u).2 with
            | none => rw [e2] at e; cases e; exact pub u t h3
            | some g =>
              rw [e2] at e
              simp only at e
              by_cases c : g < (yU A.W A.L m u t).pur m
              · rw [if_pos c] at e; cases e; exact pub u t h3
              · rw [if_neg c] at e; exact ih f e
        have e7 : (7 : Int32) + nI m = nI (7 + m) := nI_add 7 m
        have i7 := pk_in (x := nI (7 + m)) (7 + m) 154 (by omega)
        have inner : ∀ (r' k u : Nat) (I' : Nat → Nat → Int32) (J' : Nat → Nat → Int64) (m0 : Nat) (f : Nat → Nat × Nat × Nat), r' + k = t → u ≤ t → pj_fr qM I I' → pj_fr sS J J' → LM A.W 1 (yU A.W A.L m u k) I' → KM 1 m0 f I' →
            (∀ I' J', pj_fr qM I I' → pj_fr sS J J' → pj_R (pj_D 6) ta mc_242 false Q 39 [some (.ref 276), some (.int (nI m)), some (.int (nI t)), some (.int (wo (wtN A.W A.L m t (u + 1)).1)), some (.int (wo (wtN A.W A.L m t (u + 1)).2)), some (.int (nI (u + 1))), none] [] (zc n) I' J' 0 0) →
            pj_R (pj_D 6) ta mc_242 false Q 54 [some (.ref 276), some (.int (nI m)), some (.int (nI t)), some (.int (wo (wtN A.W A.L m t u).1)), some (.int (wo (wtN A.W A.L m t u).2)), some (.int (nI u)), some (.int (nI k))] [] (zc n) I' J' 0 0 := by
          intro r'
          induction r' with
          | zero =>
            intro k u I' J' m0 f hk huk hf hj L4 K4 nx
            obtain rfl : k = t := by omega
            refine v242_54 (pj_D_le 6) I' J' _ _ _ _ _ _ ?_
            have l4 := (L4.2.2.2.2 m hm).2.2.2
            rw [show 7 * 1 + m = 7 + m by omega] at l4
            rw [e7, nI_clamp (n := 7 + m) (by omega), l4, nI_1]
            refine br_t (nI_le (Nat.le_refl _) (by omega)) ⟨i7, ?_⟩
            have nx := nx I' J' hf hj
            have pb := pub u k h3
            have fb := fub u
            unfold wtN at nx
            cases e2 : (wtN A.W A.L m k u).2 with
            | none =>
              rw [e2] at nx
              refine ⟨fun _ => ⟨i7, nx⟩, fun z => absurd ?_ z⟩
              show (-1 : Int32) < nI _
              exact Int32.lt_of_lt_of_le (by decide) (nI_pos' (n := (yU A.W A.L m u k).pur m) (by omega))
            | some g =>
              rw [e2] at nx
              simp only at nx
              have gb := fb g e2
              refine pk_lt g ((yU A.W A.L m u k).pur m) (fun c => ⟨i7, ?_⟩) (fun c => ?_)
              · rw [if_pos c] at nx
                exact nx
              · rw [if_neg (by omega), e2] at nx
                exact nx
          | succ r' ih =>
            intro k u I' J' m0 f hk huk hf hj L4 K4 nx
            have v := yU_V (m := m) (u := u) hV (k := k) (by omega)
            refine v242_54 (pj_D_le 6) I' J' _ _ _ _ _ _ (br_f (nI_ge (by omega) (by omega)) ?_)
            rw [nI_1]
            have go : ∀ w, w = (if k < u then some m else none) → pj_D 6 226 [.ref 276, .int 1, .int (wo w)] (zc n, I', J') (kI n fun v1 I1 J1 => pj_R (pj_D 6) ta mc_242 false Q 54 [some (.ref 276), some (.int (nI m)), some (.int (nI t)), some (.int (wo (wtN A.W A.L m t u).1)), some (.int (wo (wtN A.W A.L m t u).2)), some (.int (nI u)), some (.int (nI (k + 1)))] [] (zc n) I1 J1 0 0) := by
              intro w ew
              refine tick1 (by decide) (w := w) (fun j z => by subst ew; split at z <;> cases z; omega) hA hI hf hj L4 v.1 K4 (fun I2 J2 f2 hf2 hj2 L2 K2 => kI_i ?_)
              have L3 : LM A.W 1 (yU A.W A.L m u (k + 1)) I2 := by
                unfold yU
                rw [← ew]
                exact L2
              exact ih (k + 1) u I2 J2 _ f2 (by omega) huk hf2 hj2 L3 K2 nx
            refine pk_le u k (fun c => go none (by rw [if_neg (by omega)])) (fun c => go (some m) (by rw [if_pos c]))
        have outer : ∀ (r' u : Nat) (I' : Nat → Nat → Int32) (J' : Nat → Nat → Int64), r' + u = t + 1 → pj_fr qM I I' → pj_fr sS J J' →
            pj_R (pj_D 6) ta mc_242 false Q 39 [some (.ref 276), some (.int (nI m)), some (.int (nI t)), some (.int (wo (wtN A.W A.L m t u).1)), some (.int (wo (wtN A.W A.L m t u).2)), some (.int (nI u)), none] [] (zc n) I' J' 0 0 := by
          intro r'
          induction r' with
          | zero =>
            intro u I' J' hu hf hj
            obtain rfl : u = t + 1 := by omega
            exact v242_39 (pj_D_le 6) I' J' _ _ _ _ _ (br_t (nI_lt (by omega) (by omega)) (q I' J' hf hj))
          | succ r' ih =>
            intro u I' J' hu hf hj
            refine v242_39 (pj_D_le 6) I' J' _ _ _ _ _ (br_f (nI_nlt (by omega) (by omega)) ?_)
            refine try0 (by decide) hA hI hf hj (fun I1 f1 l1 k1 => kV_i ?_)
            exact inner t 0 u I1 J' _ _ (by omega) (by omega) f1 hj l1 k1 (fun I2 J2 f2 j2 => ih (u + 1) I2 J2 (by omega) f2 j2)
        exact outer (t + 1) 0 I J (by omega) pj_fr_rf pj_fr_rf
      · rw [aw_n z] at q
        exact q I J pj_fr_rf pj_fr_rf
  · rw [tix_n h7 z] at q
    exact q I J pj_fr_rf pj_fr_rf
/-- PegCoatsModel.warms -/
theorem m215 (hh : 6 ≤ h) {p r : Int32} (hA : AV A) (hI : InvM A I J) (q : ∀ I' J', pj_fr qM I I' → pj_fr sS J J' → Q (some (.long (warmsV A p r))) (zc n, I', J')) : pj_D h 215 [.ref 276, .int p, .int r] (zc n, I, J) Q := by
  have h7 := hA.2.2.1
  have h8 := hA.2.1
  obtain ⟨B, b1, b2⟩ := hI.2.1
  refine pj_ent (g := 5) hh (t := mt_215) rfl rfl (v215_0 (pj_D_le 5) I J _ _ ?_)
  unfold warmsV at q
  refine s212 (by decide) b1 b2.1.2.2.1 b2.1.2.2.2.2.1 h7 (fun k hk e => kI_i ⟨fun z => absurd z (by decide), fun _ => ?_⟩) (fun z => kI_i ⟨fun _ => ?_, fun z => absurd rfl z⟩)
  · subst e
    rw [ix_s hk (by omega)] at q
    refine s211 (by decide) b1 b2.1.2.2.1 b2.1.2.2.2.1 h8 (fun c hc e => kI_i ⟨fun z => absurd z (by decide), fun _ => ?_⟩) (fun z => kI_i ⟨fun _ => ?_, fun z => absurd rfl z⟩)
    · subst e
      rw [ix_s hc (by omega)] at q
      exact s216 (Nat.le_refl 5) (v := 0) (o := some c) (by decide) b1 b2 hA.1 hI.2.2.1 hA.2.2.2.1 hk (fun d e => by cases e; exact hc) (fun I' J' f1 f2 => kL_i (q I' J' (pj_fr_w f1 (fun c j hc => aS_q hc)) f2))
    · rw [ix_n (by omega) z] at q
      exact q I J pj_fr_rf pj_fr_rf
  · rw [ix_n (by omega) z] at q
    exact q I J pj_fr_rf pj_fr_rf
/-- PegCoatsModel.called -/
theorem m243 (hh : 6 ≤ h) {p r : Int32} (hA : AV A) (hI : InvM A I J) (q : ∀ I' J', pj_fr qM I I' → pj_fr sS J J' → Q (some (.int (calledV A p r))) (zc n, I', J')) : pj_D h 243 [.ref 276, .int p, .int r] (zc n, I, J) Q := by
  obtain ⟨B, b1, b2⟩ := hI.2.1
  refine pj_ent (g := 5) hh (t := mt_243) rfl rfl (v243_0 (pj_D_le 5) I J _ _ ?_)
  have no : ¬ (1 ≤ p ∧ p ≤ 99 ∧ 0 ≤ r ∧ r ≤ 99) → Q (some (.int (-1))) (zc n, I, J) := fun z => by
    have q := q I J pj_fr_rf pj_fr_rf
    unfold calledV at q
    rw [if_neg z] at q
    exact q
  refine s179 (by decide) (kI_i ?_)
  by_cases c1 : 1 ≤ p ∧ p ≤ 99
  · rw [if_pos c1]
    refine ⟨fun z => absurd z (by decide), fun _ => s179 (by decide) (kI_i ?_)⟩
    by_cases c2 : 0 ≤ r ∧ r ≤ 99
    · rw [if_pos c2]
      refine ⟨fun z => absurd z (by decide), fun _ => ?_⟩
      obtain ⟨s, hs, rfl⟩ := nI_of (x := p) (fun c => absurd (Int32.lt_of_le_of_lt c1.1 c) (by decide))
      obtain ⟨g, hg, rfl⟩ := nI_of (x := r) (fun c => absurd (Int32.lt_of_le_of_lt c2.1 c) (by decide))
      have e1 : s ≤ 99 := (nI_leI (b := 99) hs (by decide)).mp c1.2
      have e2 : g ≤ 99 := (nI_leI (b := 99) hg (by decide)).mp c2.2
      unfold calledV at q
      rw [if_pos ⟨c1.1, c1.2, c2.1, c2.2⟩, nI_clamp hs, nI_clamp hg] at q
      exact s229 (Nat.le_refl 5) (v := 0) (by decide) b1 b2 hA.1 hI.2.2.1 hA.2.2.2.1 (by omega) (by omega) (fun I' J' f1 f2 => kI_i (q I' J' (pj_fr_w f1 (fun c j hc => aS_q hc)) f2))
    · rw [if_neg c2]
      exact ⟨fun _ => no (fun z => c2 z.2.2), fun z => absurd rfl z⟩
  · rw [if_neg c1]
    exact ⟨fun _ => no (fun z => c1 ⟨z.1, z.2.1⟩), fun z => absurd rfl z⟩
end PMh
