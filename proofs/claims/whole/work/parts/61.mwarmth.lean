/-! warmth, growth, leaving: the reference -/
def aS : Nat → Nat → Bool := fun c _ => c == 310
def sS : Nat → Nat → Bool := fun c _ => c == 309
section PWm
variable {n h : Nat} {Q : pj_K} {I : Nat → Nat → Int32} {J : Nat → Nat → Int64} {W : Wk} {L : Ly} {B : Nat}
theorem aS_u {I' : Nat → Nat → Int32} {k : Nat} {x : Int32} (hf : pj_fr aS I I') : pj_fr aS I (pj_u I' 310 k x) := pj_fr_u hf rfl
theorem s219p (hh : 3 ≤ h) {p : Nat} {ts : List Tk} {e : Nat → Int} {I' : Nat → Nat → Int32} (hp : p < 3) (hB : I 276 13 = nI B) (hW : MW W B I J) (hV : WV W) (hs : W.pr p = some ts) (hf : pj_fr aS I I') (hE : ∀ w, al p w = true → I' 310 w = iI (e w) ∧ GB (e w)) (q : ∀ J', pj_fr sS J J' → Q (some (.long (iL (val ts e)))) (zc n, I', J')) : pj_D h 219 [.ref 276, .int (nI p)] (zc n, I', J) Q := by
  have hP := hW.2.1 p hp
  rw [hs] at hP
  obtain ⟨f, h1, h2, h3, h4⟩ := hP
  exact s219 hh hp ((hf 276 13 rfl).trans hB) hW.1.2.2.1 ((hf 286 _ rfl).trans h1) ((hf 287 _ rfl).trans h2) h3 (MC_fr (fun j _ _ => ⟨hf 288 j rfl, hf 289 j rfl⟩) h4) (hV.1 p ts hp hs).2 hE q
/-- PegCoatsModel.warmth -/
theorem s217 (hh : 4 ≤ h) {v s a c : Nat} (hv : v < 22) (hB : I 276 13 = nI B) (hW : MW W B I J) (hV : WV W) (hL : LM W v L I) (hLV : LV W L) (hc : c < W.nc) (b1 : s ≤ 9999) (b2 : a ≤ 9999) (q : ∀ I' J', pj_fr aS I I' → pj_fr sS J J' → Q (some (.long (iL (wm W s a L.yr c (L.lin c))))) (zc n, I', J')) : pj_D h 217 [.ref 276, .int (nI v), .int (nI c), .int (nI s), .int (nI a)] (zc n, I, J) Q := by
  obtain ⟨w1, w2, w0, w3, w4, w5⟩ := hW.1
  have vv := hV.2.2.1 c hc
  have yy := hLV.1
  have ll := hLV.2.1 c hc
  refine pj_ent (g := 3) hh (t := mt_217) rfl rfl (v217_0 (pj_D_le 3) I J _ _ _ _ ?_)
  rw [hB, li_8, nI_clamp (n := 8 * B + c) (by omega), (w5 c hc).1]
  refine ⟨pk_in (8 * B + c) 16 (by omega), s218p (by decide) (k := 0) (by decide) hB w0 hW.2.1 (kI_i ?_)⟩
  rw [hB, li_8, li_8, nI_clamp (n := 8 * B + c) (by omega), nI_clamp (n := 8 * v + c) (by omega), nI_clamp (n := v) (by omega), (w5 c hc).2, hL.1, hL.2.2.2.1 c hc]
  unfold wm at q
  cases e : W.pr 0 with
  | none =>
    rw [e] at q
    refine ⟨fun z => absurd rfl z, fun _ => ?_⟩
    have q := q I J pj_fr_rf pj_fr_rf
    simp only at q
    refine pk_le s (W.csz c) (fun d => ?_) (fun d => ?_)
    · have e1 : (10 : Int32) - (nI (W.csz c) - nI s) = iI (10 - ((W.csz c : Int) - s)) := by
        rw [← iI_n, ← iI_n, iI_sub]; exact iI_sub 10 _
      rw [e1, iI_l ⟨by omega, by omega⟩]
      by_cases d2 : W.csz c ≤ s
      · rw [if_pos d2] at q
        rw [show (10 - ((W.csz c : Int) - s)) = 10 - ((s : Int) - W.csz c) by omega]
        exact q
      · rw [if_neg d2] at q
        exact q
    · have e1 : (10 : Int32) - (nI s - nI (W.csz c)) = iI (10 - ((s : Int) - W.csz c)) := by
        rw [← iI_n, ← iI_n, iI_sub]; exact iI_sub 10 _
      rw [e1, iI_l ⟨by omega, by omega⟩]
      rw [if_pos (by omega)] at q
      exact q
  | some ts =>
    rw [e] at q
    refine ⟨fun _ => ⟨pk_in v 22 hv, pk_in (8 * B + c) 16 (by omega), pk_in (8 * v + c) 176 (by omega), ?_⟩, fun z => absurd z (by show ¬ (1 : Int32) = 0; decide)⟩
    refine s219p (Nat.le_refl 3) (p := 0) (by decide) hB hW hV e (aS_u (aS_u (aS_u (aS_u (aS_u (aS_u pj_fr_rf)))))) (e := en s a L.yr (W.csz c) (W.cpy c) (L.lin c) 0 0) (fun w hw => ⟨?_, en_b b1 b2 (by omega) (by omega) (by omega) (by omega) (by omega) (by omega) w⟩) (fun J' g => kL_i (q _ J' (aS_u (aS_u (aS_u (aS_u (aS_u (aS_u pj_fr_rf)))))) g))
    rcases al_c hw with rfl | rfl | rfl | ⟨-, rfl | rfl | rfl⟩ | ⟨z, -⟩
    · rfl
    · rfl
    · rfl
    · rfl
    · rfl
    · rfl
    · cases z
/-- PegCoatsModel.warmed -/
theorem s216 (hh : 5 ≤ h) {v m : Nat} {o : Option Nat} (hv : v < 22) (hB : I 276 13 = nI B) (hW : MW W B I J) (hV : WV W) (hL : LM W v L I) (hLV : LV W L) (hm : m < W.nm) (ho : ∀ c, o = some c → c < W.nc) (q : ∀ I' J', pj_fr aS I I' → pj_fr sS J J' → Q (some (.long (iL (match o with | none => 0 | some c => wm W (L.siz m) (L.age m) L.yr c (L.lin c))))) (zc n, I', J')) : pj_D h 216 [.ref 276, .int (nI v), .int (nI m), .int (wo o)] (zc n, I, J) Q := by
  have w2 := hW.1.2.1
  have w1 := hW.1.1
  refine pj_ent (g := 4) hh (t := mt_216) rfl rfl (v216_0 (pj_D_le 4) I J _ _ _ ?_)
  obtain ⟨l1, l2, l3, l4⟩ := hL.2.2.2.2 m hm
  have lv1 := hLV.2.2.1 m hm
  rw [li_7, nI_clamp (n := 7 * v + m) (by omega), l1, l2]
  cases o with
  | none => exact ⟨fun z => absurd rfl z, fun _ => q I J pj_fr_rf pj_fr_rf⟩
  | some c =>
    have hc := ho c rfl
    refine ⟨fun _ => ⟨pk_in (7 * v + m) 154 (by omega), pk_in (7 * v + m) 154 (by omega), s217 (Nat.le_refl 4) hv hB hW hV hL hLV hc (by omega) (by omega) (fun I' J' g1 g2 => kL_i (q I' J' g1 g2))⟩, fun z => ?_⟩
    have := (wo_none (o := some c) (fun c' e' => by cases e'; omega)).mp z
    cases this
/-- PegCoatsModel.isLeaving -/
theorem s228 (hh : 4 ≤ h) {v m : Nat} (hv : v < 22) (hB : I 276 13 = nI B) (hW : MW W B I J) (hV : WV W) (hL : LM W v L I) (hLV : LV W L) (hm : m < W.nm) (q : ∀ I' J', pj_fr aS I I' → pj_fr sS J J' → Q (some (.int (bi (lvm W L m)))) (zc n, I', J')) : pj_D h 228 [.ref 276, .int (nI v), .int (nI m)] (zc n, I, J) Q := by
  have w2 := hW.1.2.1
  have w1 := hW.1.1
  refine pj_ent (g := 3) hh (t := mt_228) rfl rfl (v228_0 (pj_D_le 3) I J _ _ ?_)
  refine s218p (by decide) (k := 2) (by decide) hB hW.1.2.2.1 hW.2.1 (kI_i ?_)
  have i7 := pk_in (x := nI (7 * v + m)) (7 * v + m) 154 (by omega)
  obtain ⟨l1, l2, l3, l4⟩ := hL.2.2.2.2 m hm
  have lv1 := hLV.2.2.1 m hm
  have lv0 := hLV.1
  rw [li_7, nI_clamp (n := 7 * v + m) (by omega), nI_clamp (n := v) (by omega), l1, l2, l3, l4, hL.1]
  unfold lvm lv at q
  cases e : W.pr 2 with
  | none =>
    rw [e] at q
    exact ⟨fun z => absurd rfl z, fun _ => q I J pj_fr_rf pj_fr_rf⟩
  | some ts =>
    rw [e] at q
    simp only at q
    have fin : ∀ (d : Nat) (I' : Nat → Nat → Int32), d ≤ 1 → pj_fr aS I I' → (∀ I' J', pj_fr aS I I' → pj_fr sS J J' → Q (some (.int (bi (decide (val ts (en (L.siz m) (L.age m) L.yr 0 0 0 (L.pur m) d) = 1))))) (zc n, I', J')) → (I' 310 1 = nI (L.siz m) ∧ I' 310 2 = nI (L.age m) ∧ I' 310 3 = nI L.yr ∧ I' 310 7 = nI (L.pur m) ∧ I' 310 8 = nI d) →
        pj_D 3 219 [.ref 276, .int 2] (zc n, I', J) (kL n fun v3 I3 J3 => ((¬ (lg_cmp v3 1) = 0 → Q (some (.int 0)) (zc n, I3, J3)) ∧ ((lg_cmp v3 1) = 0 → Q (some (.int 1)) (zc n, I3, J3)))) := by
      intro d I' hd hf q hv
      have be : ∀ w, GB (en (L.siz m) (L.age m) L.yr 0 0 0 (L.pur m) d w) := fun w => en_b (by omega) (by omega) (by omega) (by omega) (by omega) (by omega) (by omega) (by omega) w
      refine s219p (Nat.le_refl 3) (p := 2) (by decide) hB hW hV e hf (e := en (L.siz m) (L.age m) L.yr 0 0 0 (L.pur m) d) (fun w hw => ⟨?_, be w⟩) (fun J'' g => kL_i ?_)
      · rcases al_c hw with rfl | rfl | rfl | ⟨z, -⟩ | ⟨-, rfl | rfl⟩
        · exact hv.1
        · exact hv.2.1
        · exact hv.2.2.1
        · cases z
        · exact hv.2.2.2.1
        · exact hv.2.2.2.2
      · have q := q I' J'' hf g
        have tt := (val_b (fun w _ => be w) (hV.1 2 ts (by decide) e).2).2 rfl
        rcases tt with t | t
        · rw [t] at q ⊢
          exact ⟨fun _ => q, fun z => absurd z (by decide)⟩
        · rw [t] at q ⊢
          exact ⟨fun z => absurd (by decide) z, fun _ => q⟩
    refine ⟨fun _ => ⟨i7, i7, pk_in v 22 hv, i7, i7, ?_⟩, fun z => absurd z (by show ¬ (1 : Int32) = 0; decide)⟩
    have hwn := wo_none (o := L.wor m) (fun c' e' => by have := (hLV.2.2.2.1 m c' hm e').1; omega)
    cases ew : L.wor m with
    | none =>
      rw [ew] at q
      exact ⟨fun z => absurd rfl z, fun _ => fin 0 _ (by decide) (aS_u (aS_u (aS_u (aS_u (aS_u pj_fr_rf))))) q ⟨rfl, rfl, rfl, rfl, rfl⟩⟩
    | some c =>
      rw [ew] at q hwn
      exact ⟨fun _ => fin 1 _ (by decide) (aS_u (aS_u (aS_u (aS_u (aS_u pj_fr_rf))))) q ⟨rfl, rfl, rfl, rfl, rfl⟩, fun z => by have := hwn.mp z; cases this⟩
end PWm
