/-! tells: the reference -/
theorem moC_ext {p : Nat → Bool} {g : Nat → Nat} {a b : Nat} (h : a ≤ b) (hz : ∀ j, a ≤ j → j < b → p j = false) : moC p g a = moC p g b := by
  induction b with
  | zero =>
    obtain rfl : a = 0 := by omega
    rfl
  | succ b ih =>
    rcases Nat.lt_or_ge a (b + 1) with z | z
    · rw [ih (by omega) (fun j h1 h2 => hz j h1 (by omega))]
      show moC p g b = match p b with | true => _ | false => moC p g b
      rw [hz b (by omega) (by omega)]
    · obtain rfl : a = b + 1 := by omega
      rfl
theorem moM_le {p : Nat → Bool} {g : Nat → Nat} {N : Nat} : ∀ {a : Nat}, moM p g N a ≤ N
  | 0 => Nat.zero_le _
  | a + 1 => by
    have ih := moM_le (p := p) (g := g) (N := N) (a := a)
    have := cuv_le (p := p) (g := g) (v := g a) (k := N)
    unfold moM
    cases p a <;> simp only <;> split <;> omega
section PMu
variable {n h : Nat} {Q : pj_K} {I : Nat → Nat → Int32} {J : Nat → Nat → Int64} {A : Ab}
/-- PegCoatsModel.mostBy -/
theorem s248 (hh : 2 ≤ h) {m k j B : Nat} (hA : AV A) (b1 : I 276 13 = nI B) (b2 : WM A.W B I) (hm : m < A.W.nm) (ht : A.L.the m = true) (hO : ∀ ch, ch < 9 → cho A.W A.L m ch = true → OB A m (yk A 30 + 1) ch I) (hk : k ≤ yk A 30) (hj : j < A.W.nm) (q : Q (some (.int (nI (mo A m k j)))) (zc n, I, J)) : pj_D h 248 [.ref 276, .int (nI (bs (lef A m) 9)), .int (nI k), .int (nI j)] (zc n, I, J) Q := by
  have h8 := hA.2.1
  have h7 := hA.2.2.1
  have hV := hA.2.2.2.1
  have yb : yk A 30 ≤ 30 ∧ A.L.yr + yk A 30 ≤ 999 := by have := hV.1; unfold yk; split <;> omega
  have h29 : bs (lef A m) 9 < 2 ^ 31 := Nat.lt_of_lt_of_le (bs_lt _ _) (by decide)
  have iB := vp_in_nI b2.2.2.1 (show 2 < 2 ^ 31 by decide)
  have eB : (nI B).toNatClampNeg = B := nI_clamp (by have := b2.2.2.1; omega)
  have z0 : ∀ x : Nat, nI x + 0 = nI x := fun x => nI_add x 0
  have lc : ∀ ch, lef A m ch = true → cho A.W A.L m ch = true := fun ch e => by
    unfold lef at e
    rw [Bool.and_eq_true] at e
    exact e.1
  have eq9 : mo A m k j = moM (lef A m) (fun ch => wv (scn A.W A.L m ch k) j) (A.W.nc + 1) (A.W.nc + 1) := by
    unfold mo
    rw [← moC_ext (a := A.W.nc + 1) (b := 9) (by omega) (fun d h1 h2 => ?_), mo_eq]
    cases e : lef A m d with
    | false => rfl
    | true => have := cho_9 h8 (lc d e); omega
  rw [eq9] at q
  refine pj_ent (g := 1) hh (t := mt_248) rfl rfl (v248_0 (pj_D_le 1) I J _ _ _ ?_)
  suffices outer : ∀ r a, r + a = A.W.nc + 1 → pj_R (pj_D 1) ta mc_248 false Q 6 [some (.ref 276), some (.int (nI (bs (lef A m) 9))), some (.int (nI k)), some (.int (nI j)), some (.int (nI (moM (lef A m) (fun ch => wv (scn A.W A.L m ch k) j) (A.W.nc + 1) a))), some (.int (nI a)), none, none] [] (zc n) I J 0 0 from outer (A.W.nc + 1) 0 (by omega)
  intro r
  induction r with
  | zero =>
    intro a ha
    obtain rfl : a = A.W.nc + 1 := by omega
    refine v248_6 (pj_D_le 1) I J _ _ _ _ _ ?_
    rw [b1, eB, b2.2.2.2.1]
    exact ⟨iB, br_t (nI_lt (by omega) (by omega)) q⟩
  | succ r ih =>
    intro a ha
    have ih := ih (a + 1) (by omega)
    have em : moM (lef A m) (fun ch => wv (scn A.W A.L m ch k) j) (A.W.nc + 1) (a + 1) = if (match lef A m a with | true => cuv (lef A m) (fun ch => wv (scn A.W A.L m ch k) j) (wv (scn A.W A.L m a k) j) (A.W.nc + 1) | false => 0) ≤ moM (lef A m) (fun ch => wv (scn A.W A.L m ch k) j) (A.W.nc + 1) a then moM (lef A m) (fun ch => wv (scn A.W A.L m ch k) j) (A.W.nc + 1) a else (match lef A m a with | true => cuv (lef A m) (fun ch => wv (scn A.W A.L m ch k) j) (wv (scn A.W A.L m a k) j) (A.W.nc + 1) | false => 0) := rfl
    rw [em] at ih
    refine v248_6 (pj_D_le 1) I J _ _ _ _ _ ?_
    rw [b1, eB, b2.2.2.2.1]
    refine ⟨iB, br_f (nI_nlt (by omega) (by omega)) ?_⟩
    suffices inner : ∀ r' b, r' + b = A.W.nc + 1 → pj_R (pj_D 1) ta mc_248 false Q 26 [some (.ref 276), some (.int (nI (bs (lef A m) 9))), some (.int (nI k)), some (.int (nI j)), some (.int (nI (moM (lef A m) (fun ch => wv (scn A.W A.L m ch k) j) (A.W.nc + 1) a))), some (.int (nI a)), some (.int (nI (match lef A m a with | true => cuv (lef A m) (fun ch => wv (scn A.W A.L m ch k) j) (wv (scn A.W A.L m a k) j) b | false => 0))), some (.int (nI b))] [] (zc n) I J 0 0 by
      have := inner (A.W.nc + 1) 0 (by omega)
      cases e : lef A m a with
      | true => rw [e] at this; exact this
      | false => rw [e] at this; exact this
    intro r'
    induction r' with
    | zero =>
      intro b hb
      obtain rfl : b = A.W.nc + 1 := by omega
      refine v248_26 (pj_D_le 1) I J _ _ _ _ _ _ _ ?_
      rw [b1, eB, b2.2.2.2.1, nI_1 a]
      have mb := moM_le (p := lef A m) (g := fun ch => wv (scn A.W A.L m ch k) j) (N := A.W.nc + 1) (a := a)
      have cb := cuv_le (p := lef A m) (g := fun ch => wv (scn A.W A.L m ch k) j) (v := wv (scn A.W A.L m a k) j) (k := A.W.nc + 1)
      have cb2 : (match lef A m a with | true => cuv (lef A m) (fun ch => wv (scn A.W A.L m ch k) j) (wv (scn A.W A.L m a k) j) (A.W.nc + 1) | false => 0) ≤ 9 := by
        cases lef A m a <;> simp only <;> omega
      generalize (match lef A m a with | true => cuv (lef A m) (fun ch => wv (scn A.W A.L m ch k) j) (wv (scn A.W A.L m a k) j) (A.W.nc + 1) | false => 0) = x at ih cb2
      refine ⟨iB, br_t (nI_lt (by omega) (by omega)) (pk_le x _ (fun c => ?_) (fun c => ?_))⟩
      · rw [if_pos c] at ih; exact ih
      · rw [if_neg (by omega)] at ih; exact ih
    | succ r' ihb =>
      intro b hb
      have ihb := ihb (b + 1) (by omega)
      refine v248_26 (pj_D_le 1) I J _ _ _ _ _ _ _ ?_
      rw [b1, eB, b2.2.2.2.1, nI_1 b, li_c, li_c, nI_clamp (n := 7 * (31 * a + k) + j) (by omega), nI_clamp (n := 7 * (31 * b + k) + j) (by omega), z0]
      refine ⟨iB, br_f (nI_nlt (by omega) (by omega)) (s207 (Nat.le_refl 1) h29 (by omega) (kI_i ?_))⟩
      rw [bs_bit, decide_eq_true (show a < 9 by omega), Bool.true_and]
      cases ea : lef A m a with
      | false =>
        rw [ea] at ihb
        exact ⟨fun _ => ihb, fun z => absurd rfl z⟩
      | true =>
        rw [ea] at ihb
        refine ⟨fun z => absurd z (by decide), fun _ => s207 (Nat.le_refl 1) h29 (by omega) (kI_i ?_)⟩
        rw [bs_bit, decide_eq_true (show b < 9 by omega), Bool.true_and]
        have ec : cuv (lef A m) (fun ch => wv (scn A.W A.L m ch k) j) (wv (scn A.W A.L m a k) j) (b + 1) = cuv (lef A m) (fun ch => wv (scn A.W A.L m ch k) j) (wv (scn A.W A.L m a k) j) b + (match lef A m b && decide (wv (scn A.W A.L m b k) j = wv (scn A.W A.L m a k) j) with | true => 1 | false => 0) := rfl
        simp only at ihb ⊢
        rw [ec] at ihb
        cases eb : lef A m b with
        | false =>
          rw [eb, Bool.false_and] at ihb
          exact ⟨fun _ => ihb, fun z => absurd rfl z⟩
        | true =>
          rw [eb, Bool.true_and] at ihb
          have Va := scn_V (k := k) hV hm ht (lc a ea) (by omega)
          have Vb := scn_V (k := k) hV hm ht (lc b eb) (by omega)
          have oa := hO a (by omega) (lc a ea) k (by omega) j hj
          have ob := hO b (by omega) (lc b eb) k (by omega) j hj
          have key : wo ((scn A.W A.L m a k).wor j) = wo ((scn A.W A.L m b k).wor j) ↔ wv (scn A.W A.L m b k) j = wv (scn A.W A.L m a k) j := by
            rw [wo_inj (fun c e => by have := LV_c Va.1 hj e; omega) (fun c e => by have := LV_c Vb.1 hj e; omega), wv_c h8 Va.1 hj, wv_eq h8 Vb.1 hj (fun c e => LV_c Va.1 hj e)]
            exact ⟨fun z => z.symm, fun z => z.symm⟩
          refine ⟨fun z => absurd z (by decide), fun _ => ⟨pk_in (7 * (31 * a + k) + j) 1953 (by omega), pk_in (7 * (31 * b + k) + j) 1953 (by omega), ?_⟩⟩
          rw [oa, ob, key, nI_1 (cuv _ _ _ _)]
          by_cases d : wv (scn A.W A.L m b k) j = wv (scn A.W A.L m a k) j
          · rw [decide_eq_true d] at ihb
            exact ⟨fun z => absurd d z, fun _ => ihb⟩
          · rw [decide_eq_false d] at ihb
            exact ⟨fun _ => ihb, fun z => absurd z d⟩
/-- the best so far, as the reference holds it -/
def tB (s : Ts) : Int32 := match s with | none => -1 | some t => nI (7 * t.1 + t.2.1)
def tL (s : Ts) : Int32 := match s with | none => 100000000 | some t => nI t.2.2
def tG (s : Ts) : Prop := ∀ t, s = some t → t.1 ≤ 30 ∧ t.2.1 < 7 ∧ t.2.2 ≤ 9
/-- PegCoatsModel.tells -/
theorem m247 (hh : 8 ≤ h) {p r : Int32} (hA : AV A) (hI : InvM A I J) (q : ∀ I' J', pj_fr qM I I' → pj_fr sS J J' → Q (some (.int (tellsV A p r))) (zc n, I', J')) : pj_D h 247 [.ref 276, .int p, .int r] (zc n, I, J) Q := by
  have h7 := hA.2.2.1
  have h8 := hA.2.1
  have hy := hA.2.2.2.1.1
  obtain ⟨B, b1, b2⟩ := hI.2.1
  refine pj_ent (g := 7) hh (t := mt_247) rfl rfl (v247_0 (pj_D_le 7) I J _ _ ?_)
  unfold tellsV at q
  refine s234 (by decide) b1 b2.1 hI.2.2.1 (fun m hm e ht => kI_i ⟨fun z => absurd z (by decide), fun _ => ?_⟩) (fun z => kI_i ⟨fun _ => ?_, fun z => absurd rfl z⟩)
  rotate_left
  · rw [tix_n h7 z] at q
    exact q I J pj_fr_rf pj_fr_rf
  subst e
  rw [tix_s h7 hm ht] at q
  simp only at q
  refine s179 (by decide) (kI_i ?_)
  by_cases c : (0 : Int32) ≤ r ∧ r ≤ 2
  rotate_left
  · rw [if_neg c]
    refine ⟨fun z => absurd rfl z, fun _ => ?_⟩
    have q := q I J pj_fr_rf pj_fr_rf
    rw [if_neg (fun e => c (by rw [e]; decide)), if_neg (fun e => c (by rw [e]; decide)), if_neg (fun e => c (by rw [e]; decide))] at q
    exact q
  rw [if_pos c]
  refine ⟨fun _ => ?_, fun z => absurd z (by decide)⟩
  obtain ⟨w, hw, rfl⟩ := nI_of (x := r) (fun z => absurd (Int32.lt_of_le_of_lt c.1 z) (by decide))
  have w2 : w ≤ 2 := (nI_leI (b := 2) hw (by decide)).mp c.2
  refine s246 (Nat.le_refl 7) hA hI hm ht (fun I1 J1 f1 j1 hO => kI_i ?_)
  have hI1 := InvM_q hA f1 j1 hI
  obtain ⟨B1, c1, c2⟩ := hI1.2.1
  have iB := vp_in_nI c2.1.2.2.1 (show 2 < 2 ^ 31 by decide)
  have eB : (nI B1).toNatClampNeg = B1 := nI_clamp (by have := c2.1.2.2.1; omega)
  have h29 : bs (lef A m) 9 < 2 ^ 31 := Nat.lt_of_lt_of_le (bs_lt _ _) (by decide)
  have z0 : nI (bs (lef A m) 9) = 0 ↔ bs (lef A m) 9 = 0 := nI_eq (b := 0) h29 (by decide)
  have yb : yk A 30 ≤ 30 ∧ A.L.yr + yk A 30 ≤ 999 := by unfold yk; split <;> omega
  have yb2 : ∀ k, (k ≤ 30 ∧ A.L.yr + k ≤ 999) ↔ k ≤ yk A 30 := by intro k; unfold yk; split <;> omega
  have q := q I1 J1 f1 j1
  -- what is answered
  have ans : ∀ s, s = tbs A m → tG s → ((¬ tB s = (-1) → ((¬ nI w = 0 → ((¬ nI w = 1 → Q (some (.int (tL s))) (zc n, I1, J1)) ∧ (nI w = 1 → Q (some (.int (tB s - tB s / 7 * 7))) (zc n, I1, J1)))) ∧ (nI w = 0 → Q (some (.int (tB s / 7))) (zc n, I1, J1)))) ∧ (tB s = (-1) → Q (some (.int (-1))) (zc n, I1, J1))) := by
    intro s hs hg
    rw [← hs] at q
    cases s with
    | none =>
      simp only [ite_self] at q
      exact ⟨fun z => absurd rfl z, fun _ => q⟩
    | some t =>
      obtain ⟨g1, g2, g3⟩ := hg t rfl
      simp only at q
      have ed : nI (7 * t.1 + t.2.1) / 7 = nI t.1 := (pk_div (d := 7) (by omega) (by decide) (by decide)).trans (congrArg nI (by omega))
      have er : nI (7 * t.1 + t.2.1) - nI (7 * t.1 + t.2.1) / 7 * 7 = nI t.2.1 := (pk_rem (d := 7) (by omega) (by decide) (by decide)).trans (congrArg nI (by omega))
      refine ⟨fun _ => ⟨fun d0 => ⟨fun d1 => ?_, fun d1 => ?_⟩, fun d0 => ?_⟩, fun z => ?_⟩
      · rw [if_neg d0, if_neg d1] at q
        obtain rfl | rfl | rfl : w = 0 ∨ w = 1 ∨ w = 2 := by omega
        · exact absurd rfl d0
        · exact absurd rfl d1
        · exact q
      · rw [if_neg d0, if_pos d1] at q
        show Q (some (.int (nI (7 * t.1 + t.2.1) - nI (7 * t.1 + t.2.1) / 7 * 7))) _
        rw [er]; exact q
      · rw [if_pos d0] at q
        show Q (some (.int (nI (7 * t.1 + t.2.1) / 7))) _
        rw [ed]; exact q
      · have := (wo_none (o := some (7 * t.1 + t.2.1)) (fun c' e' => by cases e'; omega)).mp z
        cases this
  suffices outer : ∀ r' k (s : Ts), r' + k = yk A 30 + 1 → 1 ≤ k → tG s → (bs (lef A m) 9 = 0 → s = none) → tbK A m r' k s = tbK A m (yk A 30) 1 none → pj_R (pj_D 7) ta mc_247 false Q 36 [some (.ref 276), none, some (.int (nI w)), some (.int (nI (bs (lef A m) 9))), some (.int (tB s)), some (.int (tL s)), some (.int (nI k)), none, none] [] (zc n) I1 J1 0 0 from outer (yk A 30) 1 none (by omega) (Nat.le_refl 1) (fun t e => by cases e) (fun _ => rfl) rfl
  intro r'
  induction r' with
  | zero =>
    intro k s hk hk1 hg hz es
    obtain rfl : k = yk A 30 + 1 := by omega
    have es : s = tbK A m (yk A 30) 1 none := es
    refine v247_36 (pj_D_le 7) I1 J1 _ _ _ _ _ ?_
    refine s224 (by decide) (a := 1) (b := 30) hI1.2.2.1.1 hy (by decide) (by decide) (fun t _ h2 h3 e => ?_) (fun _ => kI_i ⟨fun _ => ans s ?_ hg, fun z => absurd rfl z⟩)
    · have := (nI_eq (by omega) (by omega)).mp e
      have := (yb2 t).mp ⟨h2, h3⟩
      omega
    · unfold tbs
      by_cases d : bs (lef A m) 9 = 0
      · rw [if_pos d]; exact hz d
      · rw [if_neg d]; exact es
  | succ r' ih =>
    intro k s hk hk1 hg hz es
    have kb := (yb2 k).mpr (by omega)
    have es : tbK A m r' (k + 1) (tbJ A m k A.W.nm 0 s) = tbK A m (yk A 30) 1 none := es
    refine v247_36 (pj_D_le 7) I1 J1 _ _ _ _ _ ?_
    refine s224 (by decide) (a := 1) (b := 30) hI1.2.2.1.1 hy (by decide) (by decide) (fun t _ h2 h3 e => kI_i ⟨fun z => absurd z (by decide), fun _ => ?_⟩) (fun z => absurd rfl (z k hk1 kb.1 kb.2))
    rw [z0]
    refine ⟨fun d => ans s (by unfold tbs; rw [if_pos d]; exact hz d) hg, fun d => ?_⟩
    suffices inner : ∀ r2 j (t : Ts), r2 + j = A.W.nm → tG t → tbJ A m k r2 j t = tbJ A m k A.W.nm 0 s → pj_R (pj_D 7) ta mc_247 false Q 55 [some (.ref 276), none, some (.int (nI w)), some (.int (nI (bs (lef A m) 9))), some (.int (tB t)), some (.int (tL t)), some (.int (nI k)), some (.int (nI j)), none] [] (zc n) I1 J1 0 0 from inner A.W.nm 0 s (by omega) hg rfl
    intro r2
    induction r2 with
    | zero =>
      intro j t hj hg et
      obtain rfl : j = A.W.nm := by omega
      have et : t = tbJ A m k A.W.nm 0 s := et
      refine v247_55 (pj_D_le 7) I1 J1 _ _ _ _ _ _ ?_
      rw [c1, eB, c2.1.2.2.2.2.1, nI_1 k]
      exact ⟨iB, br_t (nI_le (Nat.le_refl _) (by omega)) (ih (k + 1) t (by omega) (by omega) hg (fun y => absurd y d) (by rw [et]; exact es))⟩
    | succ r2 ihj =>
      intro j t hj hg et
      have et : tbJ A m k r2 (j + 1) (tb1 A m k j t) = tbJ A m k A.W.nm 0 s := et
      have mb : mo A m k j ≤ 9 := moC_le
      refine v247_55 (pj_D_le 7) I1 J1 _ _ _ _ _ _ ?_
      rw [c1, eB, c2.1.2.2.2.2.1]
      refine ⟨iB, br_f (nI_ge (by omega) (by omega)) (s248 (by decide) hA c1 c2.1 hm ht hO (by omega) (by omega) (kI_i ?_))⟩
      rw [nI_1 j, li_7]
      have gN : tG (some (k, j, mo A m k j)) := fun t e => by cases e; exact ⟨kb.1, by show j < 7; omega, mb⟩
      have nx := fun t2 => ihj (j + 1) t2 (by omega)
      cases t with
      | none =>
        have e1 : tb1 A m k j none = some (k, j, mo A m k j) := rfl
        rw [e1] at et
        refine ⟨fun _ => nx (some (k, j, mo A m k j)) gN et, fun z => absurd ?_ z⟩
        show nI (mo A m k j) < nI 100000000
        exact nI_lt (by omega) (by decide)
      | some t =>
        have tb := (hg t rfl).2.2
        have e1 : tb1 A m k j (some t) = if mo A m k j < t.2.2 then some (k, j, mo A m k j) else some t := rfl
        rw [e1] at et
        refine pk_lt (mo A m k j) t.2.2 (fun y => ?_) (fun y => ?_)
        · rw [if_pos y] at et
          exact nx (some (k, j, mo A m k j)) gN et
        · rw [if_neg (by omega)] at et
          exact nx (some t) hg et
end PMu
