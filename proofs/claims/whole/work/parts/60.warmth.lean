/-! warmth, growth, leaving: the class -/
def cS : Nat → Nat → Bool := fun c _ => c == 16 || c == 17
def lvm (W : Wk) (L : Ly) (m : Nat) : Bool := lv W (L.siz m) (L.age m) L.yr (L.pur m) (match L.wor m with | none => 0 | some _ => 1)
theorem al_c {p w : Nat} (h : al p w = true) : w = 1 ∨ w = 2 ∨ w = 3 ∨ (p = 0 ∧ (w = 4 ∨ w = 5 ∨ w = 6)) ∨ (p = 2 ∧ (w = 7 ∨ w = 8)) := by
  unfold al at h
  simp only [Bool.and_eq_true, Bool.or_eq_true, Nat.ble_eq, beq_iff_eq] at h
  omega
section PWm
variable {n h : Nat} {Q : pj_K} {I : Nat → Nat → Int32} {J : Nat → Nat → Int64} {W : Wk} {L : Ly}
theorem cS_u {I' : Nat → Nat → Int32} {k : Nat} {x : Int32} (hf : pj_fr cS I I') : pj_fr cS I (pj_u I' 16 k x) := pj_fr_u hf rfl
theorem cS_17 {I' I'' : Nat → Nat → Int32} (hf : pj_fr cS I I') (hg : pj_fr (fun c _ => c == 17) I' I'') : pj_fr cS I I'' :=
  pj_fr_tr hf (pj_fr_w hg (fun a j ha => by unfold cS at ha; simp only [Bool.or_eq_false_iff] at ha; exact ha.2))
/-- a program of the told works, the values being laid -/
theorem s106p (hh : 2 ≤ h) {p : Nat} {ts : List Tk} {e : Nat → Int} {I' : Nat → Nat → Int32} (hp : p < 3) (hW : CW W 5 I) (hV : WV W) (hs : W.pr p = some ts) (hf : pj_fr cS I I') (hE : ∀ w, al p w = true → I' 16 (cw w) = iI (e w) ∧ GB (e w)) (q : ∀ I', pj_fr cS I I' → Q (some (.int (iI (val ts e)))) (zc n, I', J)) : pj_D h 106 [.ref 5, .int (nI p)] (zc n, I', J) Q := by
  have hP := hW.2.1 p hp
  rw [hs] at hP
  obtain ⟨f, h1, h2, h3, h4⟩ := hP
  exact s106 hh hp ((hf 14 p rfl).trans h1) ((hf 15 p rfl).trans h2) h3 (CC_fr (fun j _ _ => hf 13 j rfl) h4) (hV.1 p ts hp hs).2 hE (fun I'' g => q I'' (cS_17 hf g))
/-- Works.warmth -/
theorem s105 (hh : 3 ≤ h) {s a y c l : Nat} (hW : CW W 5 I) (hV : WV W) (hc : c < W.nc) (b1 : s ≤ 9999) (b2 : a ≤ 9999) (b3 : y ≤ 9999) (b4 : l ≤ 9999) (q : ∀ I', pj_fr cS I I' → Q (some (.int (iI (wm W s a y c l)))) (zc n, I', J)) : pj_D h 105 [.ref 5, .int (nI s), .int (nI a), .int (nI y), .int (nI c), .int (nI l)] (zc n, I, J) Q := by
  obtain ⟨w1, w2, w3, w4, w5⟩ := hW.1
  have v := hV.2.2.1 c hc
  refine pj_ent (g := 2) hh (t := mt_105) rfl rfl (v105_0 (pj_D_le 2) I J _ _ _ _ _ (br_f (nI_pos (by omega)) ?_))
  rw [w3]
  refine br_t (nI_lt hc (by omega)) (s103p (a := 5) (k := 0) (by decide) (by decide) (by decide) hW.2.1 hV (kI_i ?_))
  have i8 := pk_in (x := nI c) c 8 (by omega)
  rw [nI_clamp (n := c) (by omega), (w5 c hc).1, (w5 c hc).2]
  unfold wm at q
  cases e : W.pr 0 with
  | none =>
    rw [e] at q
    refine ⟨fun z => absurd rfl z, fun _ => ⟨i8, ?_⟩⟩
    have e1 : nI s - nI (W.csz c) = iI ((s : Int) - W.csz c) := iI_sub (s : Int) (W.csz c : Int)
    have g : I32 ((s : Int) - W.csz c) := ⟨by omega, by omega⟩
    have e2 : 0 ≤ iI ((s : Int) - W.csz c) ↔ 0 ≤ (s : Int) - W.csz c := iI_le (a := 0) ⟨by decide, by decide⟩ g
    rw [e1]
    have q := q I pj_fr_rf
    simp only at q
    by_cases d : W.csz c ≤ s
    · rw [if_pos (e2.mpr (by omega))]
      rw [if_pos d] at q
      have e3 : (10 : Int32) - iI ((s : Int) - W.csz c) = iI (10 - ((s : Int) - W.csz c)) := iI_sub 10 _
      rw [e3]; exact q
    · rw [if_neg (fun z => d (by have := e2.mp z; omega))]
      rw [if_neg d] at q
      have e3 : (0 : Int32) - iI ((s : Int) - W.csz c) = iI (0 - ((s : Int) - W.csz c)) := iI_sub 0 _
      have e4 : (10 : Int32) - iI (0 - ((s : Int) - W.csz c)) = iI (10 - (0 - ((s : Int) - W.csz c))) := iI_sub 10 _
      rw [e3, e4, show (10 - (0 - ((s : Int) - W.csz c))) = 10 - ((W.csz c : Int) - s) by omega]
      exact q
  | some ts =>
    rw [e] at q
    refine ⟨fun _ => ⟨i8, i8, ?_⟩, fun z => absurd z (by show ¬ (1 : Int32) = 0; decide)⟩
    refine s106p (Nat.le_refl 2) (p := 0) (by decide) hW hV e (cS_u (cS_u (cS_u (cS_u (cS_u (cS_u pj_fr_rf)))))) (e := en s a y (W.csz c) (W.cpy c) l 0 0) (fun w hw => ⟨?_, en_b b1 b2 b3 (by omega) (by omega) b4 (by omega) (by omega) w⟩) (fun I' g => kI_i (q I' g))
    rcases al_c hw with rfl | rfl | rfl | ⟨-, rfl | rfl | rfl⟩ | ⟨z, -⟩
    · rfl
    · rfl
    · rfl
    · rfl
    · rfl
    · rfl
    · cases z
/-- Works.grownSize -/
theorem s108 (hh : 3 ≤ h) {s a y : Nat} (hW : CW W 5 I) (hV : WV W) (b1 : s ≤ 9999) (b2 : a ≤ 9999) (b3 : y ≤ 9999) (q : ∀ I', pj_fr cS I I' → Q (some (.int (nI (gz W s a y)))) (zc n, I', J)) : pj_D h 108 [.ref 5, .int (nI s), .int (nI a), .int (nI y)] (zc n, I, J) Q := by
  refine pj_ent (g := 2) hh (t := mt_108) rfl rfl (v108_0 (pj_D_le 2) I J _ _ _ ?_)
  refine s103p (a := 5) (k := 1) (by decide) (by decide) (by decide) hW.2.1 hV (kI_i ?_)
  unfold gz at q
  cases e : W.pr 1 with
  | none =>
    rw [e] at q
    exact ⟨fun z => absurd rfl z, fun _ => q I pj_fr_rf⟩
  | some ts =>
    rw [e] at q
    simp only at q
    refine ⟨fun _ => ?_, fun z => absurd z (by show ¬ (1 : Int32) = 0; decide)⟩
    refine s106p (Nat.le_refl 2) (p := 1) (by decide) hW hV e (cS_u (cS_u (cS_u pj_fr_rf))) (e := en s a y 0 0 0 0 0) (fun w hw => ⟨?_, en_b b1 b2 b3 (by omega) (by omega) (by omega) (by omega) (by omega) w⟩) (fun I' g => kI_i ?_)
    · rcases al_c hw with rfl | rfl | rfl | ⟨z, -⟩ | ⟨z, -⟩
      · rfl
      · rfl
      · rfl
      · cases z
      · cases z
    · have q := q I' g
      have gb := (val_b (e := en s a y 0 0 0 0 0) (fun w _ => en_b b1 b2 b3 (by omega) (by omega) (by omega) (by omega) (by omega) w) (hV.1 1 ts (by decide) e).2).1
      generalize val ts (en s a y 0 0 0 0 0) = v at q gb
      have e1 : iI v < 99 ↔ v < 99 := iI_lt (b := 99) gb.i ⟨by decide, by decide⟩
      have e2 : 1 < iI v ↔ 1 < v := iI_lt (a := 1) ⟨by decide, by decide⟩ gb.i
      rw [show (if iI v < 99 then iI v else 99) = iI (if v < 99 then v else 99) by
        by_cases c : v < 99
        · rw [if_pos c, if_pos (e1.mpr c)]
        · rw [if_neg c, if_neg (fun z => c (e1.mp z))]; rfl]
      have gw : GB (if v < 99 then v else 99) := by
        split
        · exact gb
        · exact ⟨by decide, by decide⟩
      generalize (if v < 99 then v else 99) = w at q gw
      have e3 : 1 < iI w ↔ 1 < w := iI_lt (a := 1) ⟨by decide, by decide⟩ gw.i
      by_cases c : 1 < w
      · rw [if_pos c] at q
        rw [if_pos (e3.mpr c)]
        rw [← iI_n, show ((w.toNat : Nat) : Int) = w by omega] at q
        exact q
      · rw [if_neg c] at q
        rw [if_neg (fun z => c (e3.mp z))]
        exact q
/-- Works.isLeaving -/
theorem s109 (hh : 3 ≤ h) {a m : Nat} (ha : a ∈ [35, 43, 51, 252]) (hW : CW W 5 I) (hV : WV W) (hL : LC W a L I) (hLV : LV W L) (hm : m < W.nm) (q : ∀ I', pj_fr cS I I' → Q (some (.int (bi (lvm W L m)))) (zc n, I', J)) : pj_D h 109 [.ref 5, .ref a, .int (nI m)] (zc n, I, J) Q := by
  obtain ⟨w1, w2, w3, w4, w5⟩ := hW.1
  refine pj_ent (g := 2) hh (t := mt_109) rfl rfl (g109_0 (pj_D_le 2) ha I J _ ?_)
  refine s103p (a := 5) (k := 2) (by decide) (by decide) (by decide) hW.2.1 hV (kI_i ?_)
  have i7 := pk_in (x := nI m) m 7 (by omega)
  obtain ⟨l1, l2, l3, l4, l5⟩ := hL.2.2 m hm
  have lv1 := hLV.2.2.1 m hm
  have lv0 := hLV.1
  rw [nI_clamp (n := m) (by omega), l1, l2, l3, l4, hL.1]
  unfold lvm lv at q
  cases e : W.pr 2 with
  | none =>
    rw [e] at q
    exact ⟨fun z => absurd rfl z, fun _ => q I pj_fr_rf⟩
  | some ts =>
    rw [e] at q
    simp only at q
    have fin : ∀ (d : Nat) (I' : Nat → Nat → Int32), d ≤ 1 → pj_fr cS I I' → (∀ I', pj_fr cS I I' → Q (some (.int (bi (decide (val ts (en (L.siz m) (L.age m) L.yr 0 0 0 (L.pur m) d) = 1))))) (zc n, I', J)) → (I' 16 1 = nI (L.siz m) ∧ I' 16 4 = nI (L.age m) ∧ I' 16 11 = nI L.yr ∧ I' 16 13 = nI (L.pur m) ∧ I' 16 14 = nI d) →
        pj_D 2 106 [.ref 5, .int 2] (zc n, I', J) (kI n fun v3 I3 J3 => ((v3 = 0 → Q (some (.int 0)) (zc n, I3, J3)) ∧ (¬ v3 = 0 → Q (some (.int 1)) (zc n, I3, J3)))) := by
      intro d I' hd hf q hv
      have be : ∀ w, GB (en (L.siz m) (L.age m) L.yr 0 0 0 (L.pur m) d w) := fun w => en_b (by omega) (by omega) (by omega) (by omega) (by omega) (by omega) (by omega) (by omega) w
      refine s106p (Nat.le_refl 2) (p := 2) (by decide) hW hV e hf (e := en (L.siz m) (L.age m) L.yr 0 0 0 (L.pur m) d) (fun w hw => ⟨?_, be w⟩) (fun I'' g => kI_i ?_)
      · rcases al_c hw with rfl | rfl | rfl | ⟨z, -⟩ | ⟨-, rfl | rfl⟩
        · exact hv.1
        · exact hv.2.1
        · exact hv.2.2.1
        · cases z
        · exact hv.2.2.2.1
        · exact hv.2.2.2.2
      · have q := q I'' g
        have tt := (val_b (fun w _ => be w) (hV.1 2 ts (by decide) e).2).2 rfl
        rcases tt with t | t
        · rw [t] at q ⊢
          exact ⟨fun _ => q, fun z => absurd rfl z⟩
        · rw [t] at q ⊢
          exact ⟨fun z => absurd z (by decide), fun _ => q⟩
    refine ⟨fun _ => ⟨i7, i7, i7, i7, ?_⟩, fun z => absurd z (by show ¬ (1 : Int32) = 0; decide)⟩
    have hwn := wo_none (o := L.wor m) (fun c' e' => by have := (hLV.2.2.2.1 m c' hm e').1; omega)
    cases ew : L.wor m with
    | none =>
      rw [ew] at q
      exact ⟨fun z => absurd rfl z, fun _ => fin 0 _ (by decide) (cS_u (cS_u (cS_u (cS_u (cS_u pj_fr_rf))))) q ⟨rfl, rfl, rfl, rfl, rfl⟩⟩
    | some c =>
      rw [ew] at q hwn
      exact ⟨fun _ => fin 1 _ (by decide) (cS_u (cS_u (cS_u (cS_u (cS_u pj_fr_rf))))) q ⟨rfl, rfl, rfl, rfl, rfl⟩, fun z => by have := hwn.mp z; cases this⟩
end PWm
