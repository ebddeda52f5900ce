/-! glad -/
def wml (W : Wk) (L : Ly) (m c : Nat) : Int := wm W (L.siz m) (L.age m) L.yr c (L.lin c)
def gl (W : Wk) (L : Ly) (i j : Nat) : Bool := match L.wor i with
  | none => false
  | some a => match L.wor j with
    | none => false
    | some b => decide (wml W L i a < wml W L i b) && decide (wml W L j b < wml W L j a)
abbrev Gs : Type := Nat × Option Nat × Option Nat
def gd1 (W : Wk) (L : Ly) (i j : Nat) (s : Gs) : Gs := match gl W L i j with
  | true => if s.1 = 0 then (s.1 + 1, some i, some j) else (s.1 + 1, s.2.1, s.2.2)
  | false => s
def gdJ (W : Wk) (L : Ly) (i : Nat) : Nat → Nat → Gs → Gs
  | 0, _, s => s
  | r + 1, j, s => gdJ W L i r (j + 1) (gd1 W L i j s)
def gdI (W : Wk) (L : Ly) : Nat → Nat → Gs → Gs
  | 0, _, s => s
  | r + 1, i, s => gdI W L r (i + 1) (gdJ W L i (W.nm - (i + 1)) (i + 1) s)
def gladV (A : Ab) (p : Int32) : Int32 := if p = 0 then nI (gdI A.W A.L A.W.nm 0 (0, none, none)).1 else if p = 1 then wo (gdI A.W A.L A.W.nm 0 (0, none, none)).2.1 else if p = 2 then wo (gdI A.W A.L A.W.nm 0 (0, none, none)).2.2 else -1
theorem gd1_b {W : Wk} {L : Ly} {i j : Nat} {s : Gs} : (gd1 W L i j s).1 ≤ s.1 + 1 := by
  unfold gd1
  cases gl W L i j with
  | true => simp only; split <;> exact Nat.le_refl _
  | false => exact Nat.le_succ _
theorem LV_c {W : Wk} {L : Ly} {m c : Nat} (hV : LV W L) (hm : m < W.nm) (h : L.wor m = some c) : c < W.nc := (hV.2.2.2.1 m c hm h).1
section PGl
variable {n h : Nat} {Q : pj_K} {I : Nat → Nat → Int32} {J : Nat → Nat → Int64} {A : Ab}
theorem wml_b (hA : AV A) {m c : Nat} (hm : m < A.W.nm) (hc : c < A.W.nc) : GB (wml A.W A.L m c) := by
  have hV := hA.2.2.2.1
  have a1 := hV.2.2.1 m hm
  have a2 := hV.2.1 c hc
  have a3 := hV.1
  exact wm_b hA.1 hc (by omega) (by omega) (by omega) (by omega)
theorem warmsV_s (hA : AV A) {m c : Nat} (hm : m < A.W.nm) (hc : c < A.W.nc) : warmsV A (nI m) (nI c) = iL (wml A.W A.L m c) := by
  have h7 := hA.2.2.1
  have h8 := hA.2.1
  unfold warmsV
  rw [ix_s hm (by omega), ix_s hc (by omega)]
  rfl
/-- PegCoats.warmer -/
theorem s135 (hh : 5 ≤ h) {m c d : Nat} (hA : AV A) (hI : InvC A I) (hm : m < A.W.nm) (hc : c < A.W.nc) (hd : d < A.W.nc) (q : ∀ I', pj_fr cS I I' → Q (some (.int (bi (decide (wml A.W A.L m d < wml A.W A.L m c))))) (zc n, I', J)) : pj_D h 135 [.ref 2, .int (nI m), .int (nI c), .int (nI d)] (zc n, I, J) Q := by
  refine pj_ent (g := 4) hh (t := mt_135) rfl rfl (v135_0 (pj_D_le 4) I J _ _ _ ?_)
  refine c125 (by decide) hA hI (fun I1 f1 => kL_i ?_)
  have hI1 := InvC_q (pj_fr_w f1 (fun c j hc => cS_q hc)) hI
  refine c125 (by decide) hA hI1 (fun I2 f2 => kL_i ?_)
  have q := q I2 (pj_fr_tr f1 f2)
  rw [warmsV_s hA hm hc, warmsV_s hA hm hd, lg_cmp_le, iL_le (wml_b hA hm hc).l (wml_b hA hm hd).l]
  by_cases e : wml A.W A.L m d < wml A.W A.L m c
  · rw [decide_eq_true e] at q
    exact ⟨fun z => absurd e (by omega), fun _ => q⟩
  · rw [decide_eq_false e] at q
    exact ⟨fun _ => q, fun z => absurd (by omega) z⟩
/-- PegCoats.wouldGladlyChange -/
theorem s134 (hh : 6 ≤ h) {i j : Nat} (hA : AV A) (hI : InvC A I) (hi : i < A.W.nm) (hj : j < A.W.nm) (q : ∀ I', pj_fr cS I I' → Q (some (.int (bi (gl A.W A.L i j)))) (zc n, I', J)) : pj_D h 134 [.ref 2, .int (nI i), .int (nI j)] (zc n, I, J) Q := by
  have h7 := hA.2.2.1
  have h8 := hA.2.1
  have hV := hA.2.2.2.1
  have hL := hI.2.2.1
  refine pj_ent (g := 5) hh (t := mt_134) rfl rfl (v134_0 (pj_D_le 5) I J _ _ ?_)
  have ii := pk_in (x := nI i) i 7 (by omega)
  have ij := pk_in (x := nI j) j 7 (by omega)
  rw [nI_clamp (n := i) (by omega), nI_clamp (n := j) (by omega), (hL.2.2 i hi).2.2.2.2, (hL.2.2 j hj).2.2.2.2, (hL.2.2 i hi).2.2.1, (hL.2.2 j hj).2.2.1]
  unfold gl at q
  have no : ∀ m, m < A.W.nm → A.L.the m = false → A.L.wor m = none := fun m hm ht => by
    cases e : A.L.wor m with
    | none => rfl
    | some c => rw [(hV.2.2.2.1 m c hm e).2.2] at ht; cases ht
  have wn : ∀ m c, m < A.W.nm → A.L.wor m = some c → ¬ wo (some c) = -1 := fun m c hm e z => by
    have := LV_c hV hm e
    have := (wo_none (o := some c) (fun c' e' => by cases e'; omega)).mp z
    cases this
  refine ⟨ii, ?_⟩
  cases e1 : A.L.the i with
  | false =>
    rw [no i hi e1] at q
    exact ⟨fun _ => q I pj_fr_rf, fun z => absurd rfl z⟩
  | true =>
    refine ⟨fun z => absurd z (by decide), fun _ => ⟨ij, ?_⟩⟩
    cases e2 : A.L.the j with
    | false =>
      rw [no j hj e2] at q
      refine ⟨fun _ => ?_, fun z => absurd rfl z⟩
      cases e3 : A.L.wor i <;> rw [e3] at q <;> exact q I pj_fr_rf
    | true =>
      refine ⟨fun z => absurd z (by decide), fun _ => ⟨ii, ?_⟩⟩
      cases e3 : A.L.wor i with
      | none =>
        rw [e3] at q
        exact ⟨fun _ => q I pj_fr_rf, fun z => absurd rfl z⟩
      | some a =>
        rw [e3] at q
        have ha := LV_c hV hi e3
        refine ⟨fun z => absurd z (wn i a hi e3), fun _ => ⟨ij, ?_⟩⟩
        cases e4 : A.L.wor j with
        | none =>
          rw [e4] at q
          exact ⟨fun z => absurd rfl z, fun _ => q I pj_fr_rf⟩
        | some b =>
          rw [e4] at q
          have hb := LV_c hV hj e4
          simp only at q
          refine ⟨fun _ => ⟨ij, ii, ?_⟩, fun z => absurd z (wn j b hj e4)⟩
          refine s135 (Nat.le_refl 5) hA hI hi hb ha (fun I1 f1 => kI_i ?_)
          have hI1 := InvC_q (pj_fr_w f1 (fun c j hc => cS_q hc)) hI
          have hL1 := hI1.2.2.1
          rw [(hL1.2.2 i hi).2.2.1, (hL1.2.2 j hj).2.2.1, e3, e4]
          by_cases d : wml A.W A.L i a < wml A.W A.L i b
          · rw [decide_eq_true d, Bool.true_and] at q
            rw [decide_eq_true d]
            refine ⟨fun z => absurd z (by decide), fun _ => ⟨ii, ij, ?_⟩⟩
            refine s135 (Nat.le_refl 5) hA hI1 hj ha hb (fun I2 f2 => kI_i ?_)
            have q := q I2 (pj_fr_tr f1 f2)
            by_cases d2 : wml A.W A.L j b < wml A.W A.L j a
            · rw [decide_eq_true d2] at q ⊢
              exact ⟨fun z => absurd z (by decide), fun _ => q⟩
            · rw [decide_eq_false d2] at q ⊢
              exact ⟨fun _ => q, fun z => absurd rfl z⟩
          · rw [decide_eq_false d, Bool.false_and] at q
            rw [decide_eq_false d]
            exact ⟨fun _ => q I1 f1, fun z => absurd rfl z⟩
/-- PegCoats.glad -/
theorem c133 (hh : 7 ≤ h) {p : Int32} (hA : AV A) (hI : InvC A I) (q : ∀ I', pj_fr qC I I' → Q (some (.int (gladV A p))) (zc n, I', J)) : pj_D h 133 [.ref 2, .int p] (zc n, I, J) Q := by
  have h7 := hA.2.2.1
  refine pj_ent (g := 6) hh (t := mt_133) rfl rfl (v133_0 (pj_D_le 6) I J _ ?_)
  have no : ¬ (p = 0 ∨ p = 1 ∨ p = 2) → Q (some (.int (-1))) (zc n, I, J) := fun z => by
    have q := q I pj_fr_rf
    unfold gladV at q
    rw [if_neg (fun e => z (Or.inl e)), if_neg (fun e => z (Or.inr (Or.inl e))), if_neg (fun e => z (Or.inr (Or.inr e)))] at q
    exact q
  refine ⟨fun c => no (fun z => by rcases z with rfl | rfl | rfl <;> exact absurd c (by decide)), fun c => ⟨fun c2 => ?_, fun c2 => no (fun z => by rcases z with rfl | rfl | rfl <;> exact absurd (by decide) c2)⟩⟩
  obtain ⟨k, hk, rfl⟩ := nI_of c
  have k2 : k ≤ 2 := (nI_leI (b := 2) hk (by decide)).mp c2
  suffices outer : ∀ r i (s : Gs) I', r + i = A.W.nm → s.1 ≤ 7 * i → pj_fr qC I I' → gdI A.W A.L r i s = gdI A.W A.L A.W.nm 0 (0, none, none) → pj_R (pj_D 6) ta mc_133 false Q 21 [some (.ref 2), some (.int (nI k)), some (.int (nI s.1)), some (.int (wo s.2.1)), some (.int (wo s.2.2)), some (.int (nI i)), none] [] (zc n) I' J 0 0 from outer A.W.nm 0 (0, none, none) I (by omega) (Nat.zero_le _) pj_fr_rf rfl
  intro r
  induction r with
  | zero =>
    intro i s I' hr hs hf e
    obtain rfl : i = A.W.nm := by omega
    have e : s = gdI A.W A.L A.W.nm 0 (0, none, none) := e
    have q := q I' hf
    unfold gladV at q
    rw [← e] at q
    refine v133_21 (pj_D_le 6) I' J _ _ _ _ _ ?_
    rw [(InvC_q hf hI).2.1.1.2.2.2.1]
    refine br_t (nI_le (Nat.le_refl _) (by omega)) ⟨fun d => ⟨fun d1 => ?_, fun d1 => ?_⟩, fun d => ?_⟩
    · rw [if_neg d, if_neg d1] at q
      obtain rfl | rfl | rfl : k = 0 ∨ k = 1 ∨ k = 2 := by omega
      · exact absurd rfl d
      · exact absurd rfl d1
      · exact q
    · rw [if_neg d, if_pos d1] at q
      exact q
    · rw [if_pos d] at q
      exact q
  | succ r ih =>
    intro i s I' hr hs hf e
    refine v133_21 (pj_D_le 6) I' J _ _ _ _ _ ?_
    rw [(InvC_q hf hI).2.1.1.2.2.2.1, nI_1]
    refine br_f (nI_ge (by omega) (by omega)) ?_
    have e : gdI A.W A.L r (i + 1) (gdJ A.W A.L i (A.W.nm - (i + 1)) (i + 1) s) = gdI A.W A.L A.W.nm 0 (0, none, none) := e
    suffices inner : ∀ r' j (t : Gs) I', r' + j = A.W.nm → t.1 ≤ 7 * i + j → pj_fr qC I I' → gdJ A.W A.L i r' j t = gdJ A.W A.L i (A.W.nm - (i + 1)) (i + 1) s → pj_R (pj_D 6) ta mc_133 false Q 39 [some (.ref 2), some (.int (nI k)), some (.int (nI t.1)), some (.int (wo t.2.1)), some (.int (wo t.2.2)), some (.int (nI i)), some (.int (nI j))] [] (zc n) I' J 0 0 from inner _ (i + 1) s I' (by omega) (by omega) hf rfl
    intro r'
    induction r' with
    | zero =>
      intro j t I' hj ht hf e2
      obtain rfl : j = A.W.nm := by omega
      have e2 : t = gdJ A.W A.L i (A.W.nm - (i + 1)) (i + 1) s := e2
      refine v133_39 (pj_D_le 6) I' J _ _ _ _ _ _ ?_
      rw [(InvC_q hf hI).2.1.1.2.2.2.1, nI_1]
      exact br_t (nI_le (Nat.le_refl _) (by omega)) (ih (i + 1) t I' (by omega) (by omega) hf (by rw [e2]; exact e))
    | succ r' ihj =>
      intro j t I' hj ht hf e2
      have e2 : gdJ A.W A.L i r' (j + 1) (gd1 A.W A.L i j t) = gdJ A.W A.L i (A.W.nm - (i + 1)) (i + 1) s := e2
      have hI' := InvC_q hf hI
      have tb := gd1_b (W := A.W) (L := A.L) (i := i) (j := j) (s := t)
      have nx := fun I' f => ihj (j + 1) (gd1 A.W A.L i j t) I' (by omega) (by omega) f e2
      refine v133_39 (pj_D_le 6) I' J _ _ _ _ _ _ ?_
      rw [hI'.2.1.1.2.2.2.1, nI_1 t.1, nI_1 j]
      refine br_f (nI_ge (by omega) (by omega)) (s134 (Nat.le_refl 6) hA hI' (by omega) (by omega) (fun I2 f2 => kI_i ?_))
      have f3 := pj_fr_tr hf (pj_fr_w f2 (fun c j hc => cS_q hc))
      unfold gd1 at nx
      have t0 : nI t.1 = 0 ↔ t.1 = 0 := nI_eq (b := 0) (by omega) (by decide)
      cases eg : gl A.W A.L i j with
      | false =>
        rw [eg] at nx
        exact ⟨fun z => absurd rfl z, fun _ => nx I2 f3⟩
      | true =>
        rw [eg] at nx
        simp only at nx
        rw [t0]
        refine ⟨fun _ => ⟨fun d => ?_, fun d => ?_⟩, fun z => absurd z (by decide)⟩
        · rw [if_neg d] at nx
          exact nx I2 f3
        · rw [if_pos d] at nx
          exact nx I2 f3
/-- PegCoatsModel.glad -/
theorem m238 (hh : 6 ≤ h) {p : Int32} (hA : AV A) (hI : InvM A I J) (q : ∀ I' J', pj_fr qM I I' → pj_fr sS J J' → Q (some (.int (gladV A p))) (zc n, I', J')) : pj_D h 238 [.ref 276, .int p] (zc n, I, J) Q := by
  have h7 := hA.2.2.1
  have h8 := hA.2.1
  have hV := hA.2.2.2.1
  refine pj_ent (g := 5) hh (t := mt_238) rfl rfl (v238_0 (pj_D_le 5) I J _ ?_)
  refine s179 (by decide) (kI_i ?_)
  by_cases c : (0 : Int32) ≤ p ∧ p ≤ 2
  rotate_left
  · rw [if_neg c]
    refine ⟨fun z => absurd rfl z, fun _ => ?_⟩
    have q := q I J pj_fr_rf pj_fr_rf
    unfold gladV at q
    rw [if_neg (fun e => c (by rw [e]; decide)), if_neg (fun e => c (by rw [e]; decide)), if_neg (fun e => c (by rw [e]; decide))] at q
    exact q
  rw [if_pos c]
  refine ⟨fun _ => ?_, fun z => absurd z (by decide)⟩
  obtain ⟨k, hk, rfl⟩ := nI_of (x := p) (fun z => absurd (Int32.lt_of_le_of_lt c.1 z) (by decide))
  have k2 : k ≤ 2 := (nI_leI (b := 2) hk (by decide)).mp c.2
  have wn : ∀ m c, m < A.W.nm → A.L.wor m = some c → ¬ wo (some c) = -1 := fun m c hm e z => by
    have := LV_c hV hm e
    have := (wo_none (o := some c) (fun c' e' => by cases e'; omega)).mp z
    cases this
  suffices outer : ∀ r i (s : Gs) I' J', r + i = A.W.nm → s.1 ≤ 7 * i → pj_fr qM I I' → pj_fr sS J J' → gdI A.W A.L r i s = gdI A.W A.L A.W.nm 0 (0, none, none) → pj_R (pj_D 5) ta mc_238 false Q 21 [some (.ref 276), some (.int (nI k)), some (.int (nI s.1)), some (.int (wo s.2.1)), some (.int (wo s.2.2)), some (.int (nI i)), none] [] (zc n) I' J' 0 0 from outer A.W.nm 0 (0, none, none) I J (by omega) (Nat.zero_le _) pj_fr_rf pj_fr_rf rfl
  intro r
  induction r with
  | zero =>
    intro i s I' J' hr hs hf hj e
    obtain rfl : i = A.W.nm := by omega
    have e : s = gdI A.W A.L A.W.nm 0 (0, none, none) := e
    have q := q I' J' hf hj
    unfold gladV at q
    rw [← e] at q
    obtain ⟨B, b1, b2⟩ := (InvM_q hA hf hj hI).2.1
    refine v238_21 (pj_D_le 5) I' J' _ _ _ _ _ ?_
    rw [b1, nI_clamp (n := B) (by have := b2.1.2.2.1; omega), b2.1.2.2.2.2.1]
    refine ⟨vp_in_nI b2.1.2.2.1 (by decide), br_t (nI_le (Nat.le_refl _) (by omega)) ⟨fun d => ⟨fun d1 => ?_, fun d1 => ?_⟩, fun d => ?_⟩⟩
    · rw [if_neg d, if_neg d1] at q
      obtain rfl | rfl | rfl : k = 0 ∨ k = 1 ∨ k = 2 := by omega
      · exact absurd rfl d
      · exact absurd rfl d1
      · exact q
    · rw [if_neg d, if_pos d1] at q
      exact q
    · rw [if_pos d] at q
      exact q
  | succ r ih =>
    intro i s I' J' hr hs hf hj e
    obtain ⟨B, b1, b2⟩ := (InvM_q hA hf hj hI).2.1
    refine v238_21 (pj_D_le 5) I' J' _ _ _ _ _ ?_
    rw [b1, nI_clamp (n := B) (by have := b2.1.2.2.1; omega), b2.1.2.2.2.2.1, nI_1]
    refine ⟨vp_in_nI b2.1.2.2.1 (by decide), br_f (nI_ge (by omega) (by omega)) ?_⟩
    have e : gdI A.W A.L r (i + 1) (gdJ A.W A.L i (A.W.nm - (i + 1)) (i + 1) s) = gdI A.W A.L A.W.nm 0 (0, none, none) := e
    have him : i < A.W.nm := by omega
    suffices inner : ∀ r' j (t : Gs) I' J', r' + j = A.W.nm → t.1 ≤ 7 * i + j → pj_fr qM I I' → pj_fr sS J J' → gdJ A.W A.L i r' j t = gdJ A.W A.L i (A.W.nm - (i + 1)) (i + 1) s → pj_R (pj_D 5) ta mc_238 false Q 41 [some (.ref 276), some (.int (nI k)), some (.int (nI t.1)), some (.int (wo t.2.1)), some (.int (wo t.2.2)), some (.int (nI i)), some (.int (nI j))] [] (zc n) I' J' 0 0 from inner _ (i + 1) s I' J' (by omega) (by omega) hf hj rfl
    intro r'
    induction r' with
    | zero =>
      intro j t I' J' hj2 ht hf hj e2
      obtain rfl : j = A.W.nm := by omega
      have e2 : t = gdJ A.W A.L i (A.W.nm - (i + 1)) (i + 1) s := e2
      obtain ⟨B, b1, b2⟩ := (InvM_q hA hf hj hI).2.1
      refine v238_41 (pj_D_le 5) I' J' _ _ _ _ _ _ ?_
      rw [b1, nI_clamp (n := B) (by have := b2.1.2.2.1; omega), b2.1.2.2.2.2.1, nI_1]
      exact ⟨vp_in_nI b2.1.2.2.1 (by decide), br_t (nI_le (Nat.le_refl _) (by omega)) (ih (i + 1) t I' J' (by omega) (by omega) hf hj (by rw [e2]; exact e))⟩
    | succ r' ihj =>
      intro j t I' J' hj2 ht hf hj e2
      have e2 : gdJ A.W A.L i r' (j + 1) (gd1 A.W A.L i j t) = gdJ A.W A.L i (A.W.nm - (i + 1)) (i + 1) s := e2
      have hjm : j < A.W.nm := by omega
      have tb := gd1_b (W := A.W) (L := A.L) (i := i) (j := j) (s := t)
      have nx := fun I' J' f g => ihj (j + 1) (gd1 A.W A.L i j t) I' J' (by omega) (by omega) f g e2
      have l3 : ∀ (I' : Nat → Nat → Int32) (J' : Nat → Nat → Int64) m, m < A.W.nm → InvM A I' J' → I' 304 m = wo (A.L.wor m) := fun I' J' m hm hI' => by
        have := (hI'.2.2.1.2.2.2.2 m hm).2.2.1
        rw [Nat.mul_zero, Nat.zero_add] at this
        exact this
      have hI' := InvM_q hA hf hj hI
      obtain ⟨B, b1, b2⟩ := hI'.2.1
      have ii := pk_in (x := nI i) i 154 (by omega)
      have ij := pk_in (x := nI j) j 154 (by omega)
      have t0 : nI t.1 = 0 ↔ t.1 = 0 := nI_eq (b := 0) (by omega) (by decide)
      refine v238_41 (pj_D_le 5) I' J' _ _ _ _ _ _ ?_
      rw [b1, nI_clamp (n := B) (by have := b2.1.2.2.1; omega), b2.1.2.2.2.2.1, nI_1 t.1, nI_1 j, nI_clamp (n := i) (by omega), nI_clamp (n := j) (by omega), l3 I' J' i him hI', l3 I' J' j hjm hI']
      refine ⟨vp_in_nI b2.1.2.2.1 (by decide), br_f (nI_ge (by omega) (by omega)) ⟨ii, ?_⟩⟩
      unfold gd1 gl at nx
      cases e3 : A.L.wor i with
      | none =>
        rw [e3] at nx
        exact ⟨fun _ => nx I' J' hf hj, fun z => absurd rfl z⟩
      | some a =>
        rw [e3] at nx
        have ha := LV_c hV him e3
        refine ⟨fun z => absurd z (wn i a him e3), fun _ => ⟨ij, ?_⟩⟩
        cases e4 : A.L.wor j with
        | none =>
          rw [e4] at nx
          exact ⟨fun z => absurd rfl z, fun _ => nx I' J' hf hj⟩
        | some b =>
          rw [e4] at nx
          have hb := LV_c hV hjm e4
          simp only at nx
          refine ⟨fun _ => ⟨ij, ?_⟩, fun z => absurd z (wn j b hjm e4)⟩
          have w6 : ∀ {I' : Nat → Nat → Int32} {J' : Nat → Nat → Int64} {K : pj_K} (m c : Nat), m < A.W.nm → c < A.W.nc → pj_fr qM I I' → pj_fr sS J J' → (∀ I2 J2, pj_fr qM I I2 → pj_fr sS J J2 → K (some (.long (iL (wml A.W A.L m c)))) (zc n, I2, J2)) → pj_D 5 216 [.ref 276, .int 0, .int (nI m), .int (wo (some c))] (zc n, I', J') K := by
            intro I' J' K m c hm hc f g k
            have hI' := InvM_q hA f g hI
            obtain ⟨B, b1, b2⟩ := hI'.2.1
            exact s216 (Nat.le_refl 5) (v := 0) (o := some c) (by decide) b1 b2 hA.1 hI'.2.2.1 hV hm (fun d e => by cases e; exact hc) (fun I2 J2 f1 f2 => k I2 J2 (pj_fr_tr f (pj_fr_w f1 (fun c j hc => aS_q hc))) (pj_fr_tr g f2))
          refine w6 i b him hb hf hj (fun I1 J1 f1 g1 => kL_i ⟨ii, ?_⟩)
          rw [l3 I1 J1 i him (InvM_q hA f1 g1 hI), e3]
          refine w6 i a him ha f1 g1 (fun I2 J2 f2 g2 => kL_i ?_)
          rw [lg_cmp_le, iL_le (wml_b hA him hb).l (wml_b hA him ha).l]
          by_cases d : wml A.W A.L i a < wml A.W A.L i b
          · rw [decide_eq_true d, Bool.true_and] at nx
            refine ⟨fun z => absurd d (by omega), fun _ => ⟨ii, ?_⟩⟩
            rw [l3 I2 J2 i him (InvM_q hA f2 g2 hI), e3]
            refine w6 j a hjm ha f2 g2 (fun I3 J3 f3 g3 => kL_i ⟨ij, ?_⟩)
            rw [l3 I3 J3 j hjm (InvM_q hA f3 g3 hI), e4]
            refine w6 j b hjm hb f3 g3 (fun I4 J4 f4 g4 => kL_i ?_)
            rw [lg_cmp_gt, iL_lt (wml_b hA hjm hb).l (wml_b hA hjm ha).l, t0]
            by_cases d2 : wml A.W A.L j b < wml A.W A.L j a
            · rw [decide_eq_true d2] at nx
              simp only at nx
              refine ⟨fun _ => ⟨fun d0 => ⟨fun _ => ?_, fun z => absurd z d0⟩, fun d0 => ⟨fun z => absurd d0 z, fun _ => ?_⟩⟩, fun z => absurd d2 z⟩
              · rw [if_neg d0] at nx
                exact nx I4 J4 f4 g4
              · rw [if_pos d0] at nx
                exact nx I4 J4 f4 g4
            · rw [decide_eq_false d2] at nx
              exact ⟨fun z => absurd z d2, fun _ => nx I4 J4 f4 g4⟩
          · rw [decide_eq_false d, Bool.false_and] at nx
            exact ⟨fun _ => nx I2 J2 f2 g2, fun z => absurd (by omega) z⟩
end PGl
