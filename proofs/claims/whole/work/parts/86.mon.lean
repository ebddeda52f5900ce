/-! on: the reference -/
section PO4
variable {n h : Nat} {Q : pj_K} {I : Nat → Nat → Int32} {J : Nat → Nat → Int64} {W : Wk} {m B : Nat} {f : Nat → Nat}
def tpM (m : Nat) (f : Nat → Nat) (I : Nat → Nat → Int32) : Prop := m ≤ 1600 ∧ ∀ k, k < m → I 277 k = nI (f k) ∧ f k < 256
theorem tpM_m {I' : Nat → Nat → Int32} (hf : pj_fr (mS 1) I I') (h : tpM m f I) : tpM m f I' := ⟨h.1, fun k hk => ⟨(hf _ _ rfl).trans (h.2 k hk).1, (h.2 k hk).2⟩⟩
theorem WM_m {I' : Nat → Nat → Int32} (hf : pj_fr (mS 1) I I') (h : WM W B I) : WM W B I' := by
  obtain ⟨w1, w2, w0, w3, w4, w5⟩ := h
  exact ⟨w1, w2, w0, (hf _ _ rfl).trans w3, (hf _ _ rfl).trans w4, fun k hk => ⟨(hf _ _ rfl).trans (w5 k hk).1, (hf _ _ rfl).trans (w5 k hk).2⟩⟩
def mmn (W : Wk) (f : Nat → Nat) (k : Nat) (I' : Nat → Nat → Int32) : Prop := I' 302 (7 + k) = nI ((onL W f).siz k) ∧ I' 303 (7 + k) = nI ((onL W f).age k) ∧ I' 304 (7 + k) = wo ((onL W f).wor k) ∧ I' 305 (7 + k) = nI ((onL W f).pur k)
/-- PegCoatsModel.manOn -/
theorem s264 (hh : 2 ≤ h) {k S G : Nat} (hT : tpM m f I) (hB : I 276 13 = nI B) (hW : WM W B I) (hS : I 300 1 = nI S) (hS2 : S < 256) (hS3 : ∀ j, j < W.nc → S.testBit j = (onL W f).bur j) (hG : I 306 1 = nI G) (hG2 : G < 128) (hk : k < W.nm) (hm : 2 + 2 * W.nc + 6 * k + 5 < m) (hp : ∀ j, j < k → I 304 (7 + j) = wo ((onL W f).wor j) ∧ om W f j)
    (q1 : om W f k → od W f k → ∀ I', pj_fr (mS 1) I I' → (∀ c j, (c < 302 ∨ 306 < c) ∨ (c ≠ 306 ∧ j ≠ 7 + k) → I' c j = I c j) → mmn W f k I' → I' 306 1 = nI (G ||| (match (onL W f).the k with | true => 0 | false => 2 ^ k)) → Q (some (.int 1)) (zc n, I', J)) (q0 : ¬ (om W f k ∧ od W f k) → ∀ I', pj_fr (mS 1) I I' → Q (some (.int 0)) (zc n, I', J)) : pj_D h 264 [.ref 276, .int (nI k), .int (nI (2 + 2 * W.nc + 6 * k))] (zc n, I, J) Q := by
  have h16 := hT.1
  obtain ⟨w1, w2, w0, w3, w4, w5⟩ := hW
  have gb := fun i (hi : i ≤ 5) => hT.2 (2 + 2 * W.nc + 6 * k + i) (by omega)
  have ad : ∀ i : Nat, nI (2 + 2 * W.nc + 6 * k) + nI i = nI (2 + 2 * W.nc + 6 * k + i) := fun i => nI_add _ i
  have cl : ∀ i : Nat, i ≤ 5 → (nI (2 + 2 * W.nc + 6 * k + i)).toNatClampNeg = 2 + 2 * W.nc + 6 * k + i := fun i hi => nI_clamp (by omega)
  have ii : ∀ i : Nat, i ≤ 5 → vp_in (nI (2 + 2 * W.nc + 6 * k + i)) 1800 := fun i hi => pk_in (2 + 2 * W.nc + 6 * k + i) 1800 (by omega)
  have a1 : nI (2 + 2 * W.nc + 6 * k) + 1 = nI (2 + 2 * W.nc + 6 * k + 1) := ad 1
  have a2 : nI (2 + 2 * W.nc + 6 * k) + 2 = nI (2 + 2 * W.nc + 6 * k + 2) := ad 2
  have a3 : nI (2 + 2 * W.nc + 6 * k) + 3 = nI (2 + 2 * W.nc + 6 * k + 3) := ad 3
  have a4 : nI (2 + 2 * W.nc + 6 * k) + 4 = nI (2 + 2 * W.nc + 6 * k + 4) := ad 4
  have a5 : nI (2 + 2 * W.nc + 6 * k) + 5 = nI (2 + 2 * W.nc + 6 * k + 5) := ad 5
  have c0 : (nI (2 + 2 * W.nc + 6 * k)).toNatClampNeg = 2 + 2 * W.nc + 6 * k := nI_clamp (by omega)
  have i0 : vp_in (nI (2 + 2 * W.nc + 6 * k)) 1800 := pk_in (2 + 2 * W.nc + 6 * k) 1800 (by omega)
  have b0 := gb 0 (by decide)
  rw [Nat.add_zero] at b0
  have e7 : (7 : Int32) + nI k = nI (7 + k) := nI_add 7 k
  have i7 := pk_in (x := nI (7 + k)) (7 + k) 154 (by omega)
  have ewr : (onL W f).wor k = if f (2 + 2 * W.nc + 6 * k + 2) = 255 then none else some (f (2 + 2 * W.nc + 6 * k + 2)) := rfl
  have no : ¬ (om W f k ∧ od W f k) → Q (some (.int 0)) (zc n, I, J) := fun z => q0 z I pj_fr_rf
  have r73 : ¬ (om W f k ∧ od W f k) → pj_R (pj_D 1) ta mc_264 true Q 73 [none, none, none, none, none, none] [] (zc n) I J 0 0 := fun z => v264_73 (pj_D_le 1) I J (no z)
  have es : f (2 + 2 * W.nc + 6 * k) = (onL W f).siz k := rfl
  have ea : f (2 + 2 * W.nc + 6 * k + 1) = (onL W f).age k := rfl
  have wl : ∀ j c, j < k → (onL W f).wor j = some c → c < 8 := fun j c hj e => by have := ((hp j hj).2.2.2 c e).1; omega
  -- from the place where all that is told of him alone is right
  have r120 : (1 ≤ (onL W f).siz k ∧ (onL W f).siz k ≤ 99 ∧ (onL W f).age k ≤ 99) → f (2 + 2 * W.nc + 6 * k + 5) ≤ 1 → (∀ c, (onL W f).wor k = some c → c < W.nc ∧ (onL W f).bur c = false ∧ (onL W f).the k = true) → ∀ r o, r + o = k → (∀ j, j < o → ∀ c, (onL W f).wor j = some c → (onL W f).wor k ≠ some c) → pj_R (pj_D 1) ta mc_264 true Q 120 [some (.ref 276), some (.int (nI k)), some (.int (nI (2 + 2 * W.nc + 6 * k))), some (.int (nI (7 + k))), some (.int (wo ((onL W f).wor k))), some (.int (nI o))] [] (zc n) I J 0 0 := by
    intro s1 s5 sw r
    have wb : ∀ c, (onL W f).wor k = some c → c < 2 ^ 31 := fun c e => by have := (sw c e).1; omega
    induction r with
    | zero =>
      intro o ho hd
      obtain rfl : o = k := by omega
      refine v264_120 (pj_D_le 1) I J _ _ _ _ _ (br_t (nI_le (Nat.le_refl _) (by omega)) ?_)
      rw [a1, c0, cl 1 (by decide), nI_clamp (n := 7 + o) (by omega), b0.1, (gb 1 (by decide)).1]
      refine ⟨i0, i7, ii 1 (by decide), i7, ?_⟩
      refine v264_181 (pj_D_le 1) _ J _ _ _ _ ?_
      rw [a3, a4, cl 3 (by decide), cl 4 (by decide), nI_clamp (n := 7 + o) (by omega)]
      have x3 : (pj_u (pj_u I 302 (7 + o) (nI (f (2 + 2 * W.nc + 6 * o)))) 303 (7 + o) (nI (f (2 + 2 * W.nc + 6 * o + 1)))) 277 (2 + 2 * W.nc + 6 * o + 3) = nI (f (2 + 2 * W.nc + 6 * o + 3)) := ((pj_u_n (by decide)).trans (pj_u_n (by decide))).trans (gb 3 (by decide)).1
      have x4 : (pj_u (pj_u I 302 (7 + o) (nI (f (2 + 2 * W.nc + 6 * o)))) 303 (7 + o) (nI (f (2 + 2 * W.nc + 6 * o + 1)))) 277 (2 + 2 * W.nc + 6 * o + 4) = nI (f (2 + 2 * W.nc + 6 * o + 4)) := ((pj_u_n (by decide)).trans (pj_u_n (by decide))).trans (gb 4 (by decide)).1
      rw [x3, x4, or8 (gb 3 (by decide)).2 (gb 4 (by decide)).2]
      refine ⟨i7, ii 3 (by decide), ii 4 (by decide), i7, ?_⟩
      generalize hX : pj_u (pj_u (pj_u (pj_u I 302 (7 + o) (nI (f (2 + 2 * W.nc + 6 * o)))) 303 (7 + o) (nI (f (2 + 2 * W.nc + 6 * o + 1)))) 304 (7 + o) (wo ((onL W f).wor o))) 305 (7 + o) (nI (256 * f (2 + 2 * W.nc + 6 * o + 3) + f (2 + 2 * W.nc + 6 * o + 4))) = X
      have m7 : ∀ c, c = 302 ∨ c = 303 ∨ c = 304 ∨ c = 305 → mS 1 c (7 + o) = true := fun c hc => by
        rcases hc with rfl | rfl | rfl | rfl <;> exact rg_t (by omega) (by omega)
      have fX : pj_fr (mS 1) I X := by
        rw [← hX]
        exact pj_fr_u (pj_fr_u (pj_fr_u (pj_fr_u pj_fr_rf (m7 _ (by decide))) (m7 _ (by decide))) (m7 _ (by decide))) (m7 _ (by decide))
      have xo : ∀ c j, (c < 302 ∨ 305 < c) ∨ j ≠ 7 + o → X c j = I c j := fun c j hcj => by
        rw [← hX]
        rcases hcj with z | z
        · exact (pj_u_n (by omega)).trans ((pj_u_n (by omega)).trans ((pj_u_n (by omega)).trans (pj_u_n (by omega))))
        · exact (pj_u_j z).trans ((pj_u_j z).trans ((pj_u_j z).trans (pj_u_j z)))
      have xm : mmn W f o X := by
        refine ⟨?_, ?_, ?_, ?_⟩
        · rw [← hX, pj_u_n (by decide), pj_u_n (by decide), pj_u_n (by decide), pj_u_e]; rfl
        · rw [← hX, pj_u_n (by decide), pj_u_n (by decide), pj_u_e]; rfl
        · rw [← hX, pj_u_n (by decide), pj_u_e]
        · rw [← hX, pj_u_e]; rfl
      have od0 : od W f o := fun j c hj e => hd j hj c e
      refine v264_215 (pj_D_le 1) X J _ _ _ ?_
      rw [a5, cl 5 (by decide), xo 277 _ (by omega), (gb 5 (by decide)).1, xo 306 1 (by omega), hG]
      have fin : ∀ y, y = G ||| (match (onL W f).the o with | true => 0 | false => 2 ^ o) → pj_R (pj_D 1) ta mc_264 true Q 242 [some (.ref 276), none, none, some (.int (nI (7 + o))), none, none] [] (zc n) (pj_u X 306 1 (nI y)) J 0 0 := by
        intro y hy
        have fY : pj_fr (mS 1) I (pj_u X 306 1 (nI y)) := pj_fr_u fX rfl
        refine v264_242 (pj_D_le 1) _ J _ ?_
        have p5 : (pj_u X 306 1 (nI y)) 305 (7 + o) = nI ((onL W f).pur o) := (pj_u_n (by decide)).trans xm.2.2.2
        have pb : (onL W f).pur o < 65536 := by
          have := (gb 3 (by decide)).2
          have := (gb 4 (by decide)).2
          show 256 * f (2 + 2 * W.nc + 6 * o + 3) + f (2 + 2 * W.nc + 6 * o + 4) < 65536
          omega
        rw [nI_clamp (n := 7 + o) (by omega), p5]
        refine ⟨i7, pk_lt 9999 ((onL W f).pur o) (fun c => q0 (fun z => by have := z.1.1.2.2.2; omega) _ fY) (fun c => q1 ⟨⟨s1.1, s1.2.1, s1.2.2, c⟩, s5, sw⟩ od0 _ fY (fun c' j hcj => ?_) ⟨(pj_u_n (by decide)).trans xm.1, (pj_u_n (by decide)).trans xm.2.1, (pj_u_n (by decide)).trans xm.2.2.1, p5⟩ (by rw [pj_u_e, hy]))⟩
        rcases hcj with z | z
        · exact (pj_u_n (by omega)).trans (xo c' j (by omega))
        · exact (pj_u_n z.1).trans (xo c' j (by omega))
      have et : (onL W f).the o = decide (f (2 + 2 * W.nc + 6 * o + 5) = 1) := rfl
      have n0 : nI (f (2 + 2 * W.nc + 6 * o + 5)) = 0 ↔ f (2 + 2 * W.nc + 6 * o + 5) = 0 := nI_eq (b := 0) (by omega) (by decide)
      have z2 : nI G ||| 0 = nI (G ||| 0) := nb_or G 0
      rw [n0, sh_1 (by omega), nb_or, z2]
      refine ⟨ii 5 (by decide), fun d => fin _ ?_, fun d => fin _ ?_⟩
      · rw [et, decide_eq_true (by omega)]
      · rw [et, decide_eq_false (by omega)]
    | succ r ih =>
      intro o ho hd
      refine v264_120 (pj_D_le 1) I J _ _ _ _ _ (br_f (nI_ge (by omega) (by omega)) ?_)
      refine v264_126 (pj_D_le 1) I J _ _ _ _ _ ?_
      have eo : (7 : Int32) + nI o = nI (7 + o) := nI_add 7 o
      rw [eo, nI_clamp (n := 7 + o) (by omega), (hp o (by omega)).1, nI_1]
      have nx : (∀ c, (onL W f).wor o = some c → (onL W f).wor k ≠ some c) → pj_R (pj_D 1) ta mc_264 true Q 152 [some (.ref 276), some (.int (nI k)), some (.int (nI (2 + 2 * W.nc + 6 * k))), some (.int (nI (7 + k))), some (.int (wo ((onL W f).wor k))), some (.int (nI (o + 1)))] [] (zc n) I J 0 0 := fun hz =>
        v264_152 (pj_D_le 1) I J _ _ _ _ _ (ih (o + 1) (by omega) (fun j hj c e => by
          rcases Nat.lt_or_ge j o with z | z
          · exact hd j z c e
          · obtain rfl : j = o := by omega
            exact hz c e))
      rw [wo_none wb]
      refine ⟨fun d => nx (fun c _ e => by rw [d] at e; cases e), fun d => ⟨pk_in (7 + o) 154 (by omega), ?_⟩⟩
      cases e1 : (onL W f).wor k with
      | none => exact absurd e1 d
      | some c =>
        rw [e1] at nx
        have e2 : wo ((onL W f).wor o) = wo (some c) ↔ (onL W f).wor o = some c := wo_eq (fun d e => by have := wl o d (by omega) e; omega) (wb c e1)
        rw [e2]
        exact ⟨fun z => nx (fun d y x => by cases x; exact z y), fun z => no (fun y => y.2 o c (by omega) z e1)⟩
  have r48 : (1 ≤ (onL W f).siz k ∧ (onL W f).siz k ≤ 99) → pj_R (pj_D 1) ta mc_264 true Q 48 [some (.ref 276), some (.int (nI k)), some (.int (nI (2 + 2 * W.nc + 6 * k))), some (.int (nI (7 + k))), some (.int (wo ((onL W f).wor k))), none] [] (zc n) I J 0 0 := by
    intro s1
    refine v264_48 (pj_D_le 1) I J _ _ _ _ ?_
    have g1 := (gb 1 (by decide)).2
    have g5 := (gb 5 (by decide)).2
    have g2 := (gb 2 (by decide)).2
    rw [a1, a5, cl 1 (by decide), cl 5 (by decide), (gb 1 (by decide)).1, (gb 5 (by decide)).1]
    refine ⟨ii 1 (by decide), pk_lt 99 (f (2 + 2 * W.nc + 6 * k + 1)) (fun c => r73 (fun z => by have := z.1.1.2.2.1; omega)) (fun c => ⟨ii 5 (by decide), pk_le (f (2 + 2 * W.nc + 6 * k + 5)) 1 (fun c5 => ?_) (fun c5 => r73 (fun z => by have := z.1.2.1; omega))⟩)⟩
    rw [wo_none (fun c e => by rw [ewr] at e; split at e <;> cases e; omega)]
    refine ⟨fun d => r120 ⟨s1.1, s1.2, c⟩ c5 (fun c e => by rw [d] at e; cases e) k 0 (by omega) (fun j hj => by omega), fun d => ?_⟩
    cases e1 : (onL W f).wor k with
    | none => exact absurd e1 d
    | some x =>
      have xb : x < 256 := by
        rw [ewr] at e1
        split at e1 <;> cases e1
        exact g2
      rw [e1] at r120
      refine s211 (Nat.le_refl 1) hB w0 w3 w1 (fun y hy ey => kI_i ⟨fun z => absurd z (by decide), fun _ => ?_⟩) (fun z => kI_i ⟨fun _ => no (fun y => z x (y.1.2.2 x e1).1 rfl), fun z => absurd rfl z⟩)
      obtain rfl : x = y := (nI_eq (by omega) (by omega)).mp ey
      rw [hS]
      refine s207 (Nat.le_refl 1) (by omega) (by omega) (kI_i ?_)
      rw [hS3 x hy]
      cases e2 : (onL W f).bur x with
      | true => exact ⟨fun _ => no (fun y => by have := (y.1.2.2 x e1).2.1; rw [e2] at this; cases this), fun z => absurd z (by decide)⟩
      | false =>
        refine ⟨fun z => absurd rfl z, fun _ => ?_⟩
        refine v264_104 (pj_D_le 1) I J _ _ _ _ ?_
        rw [a5, cl 5 (by decide), (gb 5 (by decide)).1]
        have n0 : nI (f (2 + 2 * W.nc + 6 * k + 5)) = 0 ↔ f (2 + 2 * W.nc + 6 * k + 5) = 0 := nI_eq (b := 0) (by omega) (by decide)
        have et : (onL W f).the k = decide (f (2 + 2 * W.nc + 6 * k + 5) = 1) := rfl
        rw [n0]
        refine ⟨ii 5 (by decide), fun d5 => r120 ⟨s1.1, s1.2, c⟩ c5 (fun c e => by cases e; exact ⟨hy, e2, by rw [et, decide_eq_true (by omega)]⟩) k 0 (by omega) (fun j hj => by omega), fun d5 => no (fun y => by have := (y.1.2.2 x e1).2.2; rw [et, decide_eq_false (by omega)] at this; cases this)⟩
  have sb := b0.2
  have is : ∀ {A1 B1 : Prop}, (1 ≤ (onL W f).siz k ∧ (onL W f).siz k ≤ 99 → A1) → (¬ (1 ≤ (onL W f).siz k ∧ (onL W f).siz k ≤ 99) → B1) → (((if (1 : Int32) ≤ nI (f (2 + 2 * W.nc + 6 * k)) ∧ nI (f (2 + 2 * W.nc + 6 * k)) ≤ 99 then (1 : Int32) else 0) = 0 → B1) ∧ (¬ (if (1 : Int32) ≤ nI (f (2 + 2 * W.nc + 6 * k)) ∧ nI (f (2 + 2 * W.nc + 6 * k)) ≤ 99 then (1 : Int32) else 0) = 0 → A1)) := by
    intro A1 B1 fa fb
    have c1 : (1 : Int32) ≤ nI (f (2 + 2 * W.nc + 6 * k)) ↔ 1 ≤ f (2 + 2 * W.nc + 6 * k) := nI_leI (a := 1) (by decide) (by omega)
    have c2 : nI (f (2 + 2 * W.nc + 6 * k)) ≤ 99 ↔ f (2 + 2 * W.nc + 6 * k) ≤ 99 := nI_leI (b := 99) (by omega) (by decide)
    by_cases d : 1 ≤ (onL W f).siz k ∧ (onL W f).siz k ≤ 99
    · rw [if_pos ⟨c1.mpr d.1, c2.mpr d.2⟩]; exact ⟨fun z => absurd z (by decide), fun _ => fa d⟩
    · rw [if_neg (fun z => d ⟨c1.mp z.1, c2.mp z.2⟩)]; exact ⟨fun _ => fb d, fun z => absurd rfl z⟩
  refine pj_ent (g := 1) hh (t := mt_264) rfl rfl (v264_0 (pj_D_le 1) I J _ _ ?_)
  rw [a2, cl 2 (by decide), c0, (gb 2 (by decide)).1, b0.1, e7]
  have g2 := (gb 2 (by decide)).2
  have ew : nI (f (2 + 2 * W.nc + 6 * k + 2)) = 255 ↔ f (2 + 2 * W.nc + 6 * k + 2) = 255 := nI_eq (b := 255) (by omega) (by decide)
  rw [ew]
  refine ⟨ii 2 (by decide), fun d => ?_, fun d => ⟨i0, ?_⟩⟩
  · refine v264_23 (pj_D_le 1) I J _ _ _ ?_
    rw [a2, cl 2 (by decide), c0, (gb 2 (by decide)).1, b0.1]
    rw [ewr, if_neg d] at r48
    exact ⟨ii 2 (by decide), i0, s179 (Nat.le_refl 1) (kI_i (is r48 (fun z => r73 (fun y => z ⟨y.1.1.1, y.1.1.2.1⟩))))⟩
  · rw [ewr, if_pos d] at r48
    exact s179 (Nat.le_refl 1) (kI_i (is r48 (fun z => r73 (fun y => z ⟨y.1.1.1, y.1.1.2.1⟩))))
end PO4
