/-! a year: the class, whole -/
theorem peg_dress {W : Wk} {L : Ly} {m c i : Nat} (hm : m < W.nm) (hn : L.wor m = none) : peg W (L.dress m (some c)) i = (peg W L i && !decide (i = c)) := by
  have hb : (L.dress m (some c)).bur i = L.bur i := rfl
  unfold peg
  rw [hb]
  by_cases e : i = c
  · subst e
    rw [decide_eq_true rfl]
    have : (wr W (L.dress m (some i)) i).isNone = false := by
      cases e2 : wr W (L.dress m (some i)) i with
      | some j => rfl
      | none =>
        unfold wr at e2
        have := ff_none e2 m (by omega) (by omega)
        rw [dress_wor, if_pos rfl, decide_eq_true rfl] at this
        cases this
    rw [this]
    simp
  · rw [decide_eq_false e]
    have : wr W (L.dress m (some c)) i = wr W L i := by
      unfold wr
      refine ff_cong (fun j _ hj => ?_)
      rw [dress_wor]
      by_cases d : j = m
      · rw [if_pos d, d, hn]
        rw [decide_eq_false (fun z => e (by cases z; rfl)), decide_eq_false (fun z => by cases z)]
      · rw [if_neg d]
    rw [this]
    simp
section PYd
variable {n h : Nat} {Q : pj_K} {I : Nat → Nat → Int32} {J : Nat → Nat → Int64} {W : Wk} {L : Ly} {a : Nat}
theorem LC_34 {j : Nat} {x : Int32} (ha : 35 ≤ a) (hL : LC W a L I) : LC W a L (pj_u I 34 j x) :=
  ⟨(pj_u_n (by omega)).trans hL.1, fun k hk => ⟨(pj_u_n (by omega)).trans (hL.2.1 k hk).1, (pj_u_n (by omega)).trans (hL.2.1 k hk).2⟩, fun k hk => ⟨(pj_u_n (by omega)).trans (hL.2.2 k hk).1, (pj_u_n (by omega)).trans (hL.2.2 k hk).2.1, (pj_u_n (by omega)).trans (hL.2.2 k hk).2.2.1, (pj_u_n (by omega)).trans (hL.2.2 k hk).2.2.2.1, (pj_u_n (by omega)).trans (hL.2.2 k hk).2.2.2.2⟩⟩
/-- Course.dressAll -/
theorem s5 (hh : 5 ≤ h) {w : Option Nat} (ha : a ∈ [35, 43, 51, 252]) (hw : ∀ k, w = some k → k < 2 ^ 31) (hW : CW W 5 I) (hV : WV W) (hL : LC W a L I) (hLV : LV W L) (q : ∀ I', pj_fr (yS a) I I' → LC W a (drsN W w L W.nm).1 I' → I' 34 1 = nI (drsN W w L W.nm).2 → I' 34 2 = I 34 2 → Q none (zc n, I', J)) : pj_D h 5 [.ref 34, .ref a, .int (wo w)] (zc n, I, J) Q := by
  have hb := ha_b ha
  have h8 := hW.1.1
  have h7 := hW.1.2.1
  refine pj_ent (g := 4) hh (t := mt_5) rfl rfl (g5_0 (pj_D_le 4) ha I J _ ?_)
  have W0 : CW W 5 (pj_u I 34 1 0) := CW_y (a := a) hb.1 (pj_fr_u pj_fr_rf yS_34) hW
  have L0 : LC W a L (pj_u I 34 1 0) := LC_34 hb.1 hL
  refine s74 (by decide) (w := L.wor) (bu := L.bur) ha h7 h8 W0.1.2.2.1 W0.1.2.2.2.1 (fun k hk => (L0.2.2 k hk).2.2.1) (fun k hk => (L0.2.1 k hk).2) (fun j c hj e => by have := (hLV.2.2.2.1 j c hj e).1; omega) (kI_i ?_)
  suffices loop : ∀ m k I', m + k = W.nm → pj_fr (yS a) I I' → LC W a (drsN W w L k).1 I' → I' 34 1 = nI (drsN W w L k).2 → I' 34 2 = I 34 2 → pj_R (pj_D 4) ta mc_5 false Q 17 [some (.ref 34), some (.ref a), some (.int (wo w)), some (.int (nI (bs (peg W (drsN W w L k).1) W.nc))), some (.int (nI k)), none] [] (zc n) I' J 0 0 from
    loop W.nm 0 _ (by omega) (pj_fr_u pj_fr_rf yS_34) L0 pj_u_e (pj_u_j (by decide))
  intro m
  induction m with
  | zero =>
    intro k I' hk hf hL' h1 h2
    obtain rfl : k = W.nm := by omega
    have hW' := CW_y hb.1 hf hW
    refine g5_17 (pj_D_le 4) ha I' J _ _ _ ?_
    rw [hW'.1.2.2.2.1]
    exact br_t (nI_le (Nat.le_refl _) (by omega)) (q I' hf hL' h1 h2)
  | succ m ih =>
    intro k I' hk hf hL' h1 h2
    have hW' := CW_y hb.1 hf hW
    have hkm : k < W.nm := by omega
    have gv := (drsN_LV (w := w) hLV k).1
    obtain ⟨l1, l2, l3, l4, l5⟩ := hL'.2.2 k hkm
    refine g5_17 (pj_D_le 4) ha I' J _ _ _ ?_
    have i7 := pk_in (x := nI k) k 7 (by omega)
    have ih := ih (k + 1)
    have eg : drsN W w L (k + 1) = drs W w (drsN W w L k) k := rfl
    rw [eg] at ih
    rw [hW'.1.2.2.2.1, nI_clamp (n := k) (by omega), l1, l2, l3, l5, nI_1]
    refine br_f (nI_ge hkm (by omega)) ⟨i7, ?_⟩
    generalize drsN W w L k = G at gv l1 l2 l3 l4 l5 hL' h1 ih
    unfold drs at ih
    cases e : G.1.the k with
    | false =>
      rw [e] at ih
      exact ⟨fun _ => ih I' (by omega) hf hL' h1 h2, fun z => absurd rfl z⟩
    | true =>
      rw [e, Bool.true_and] at ih
      refine ⟨fun z => absurd z (by decide), fun _ => ⟨i7, ?_⟩⟩
      have hwn := wo_none (o := G.1.wor k) (fun c' e' => by have := (gv.2.2.2.1 k c' hkm e').1; omega)
      cases e2 : G.1.wor k with
      | some c =>
        rw [e2] at ih hwn
        exact ⟨fun _ => ih I' (by omega) hf hL' h1 h2, fun z => (by have := hwn.mp z; cases this)⟩
      | none =>
        rw [e2] at ih
        refine ⟨fun z => absurd rfl z, fun _ => ?_⟩
        have ew : nI k = wo w ↔ w = some k := ⟨fun z => (wo_eq hw (by omega)).mp z.symm, fun z => by rw [z]; rfl⟩
        rw [ew]
        by_cases e3 : w = some k
        · rw [decide_eq_true e3] at ih
          exact ⟨fun z => absurd e3 z, fun _ => ih I' (by omega) hf hL' h1 h2⟩
        · rw [decide_eq_false e3] at ih
          refine ⟨fun _ => ⟨i7, i7, ?_⟩, fun z => absurd z e3⟩
          have g2 := gv.2.2.1 k hkm
          refine s6 (Nat.le_refl 4) ha hW' hV hL' gv (by omega) (by omega) (fun I2 hf2 => kI_i ?_)
          have L2 := LC_c hb.1 hf2 hL'
          have h1' : I2 34 1 = nI G.2 := (hf2 34 1 rfl).trans h1
          have h2' : I2 34 2 = I 34 2 := (hf2 34 2 rfl).trans h2
          have hfr2 := pj_fr_tr hf (cS_yS hf2)
          cases e4 : bst W G.1 (G.1.siz k) (G.1.age k) with
          | none =>
            rw [e4] at ih
            exact ⟨fun _ => ih I2 (by omega) hfr2 L2 h1' h2', fun z => absurd rfl z⟩
          | some c =>
            rw [e4] at ih
            have bc := bst_p e4
            refine ⟨fun z => ?_, fun _ => ?_⟩
            · have := (wo_none (o := some c) (fun c' e' => by cases e'; omega)).mp z
              cases this
            · refine s78 (by decide) (o := some c) (by simp only [List.mem_cons, List.not_mem_nil, or_false] at ha ⊢; omega) h8 h7 L2 gv.2.1 hkm (fun d ed => by cases ed; exact bc.1) (fun I3 L3 hf3 => kV_i ?_)
              have f3 : ∀ j, I3 34 j = I2 34 j := fun j => hf3 34 j (by
                show (34 == a + 5 || 34 == a + 1) = false
                rw [beq_eq_false_iff_ne.mpr (by omega), beq_eq_false_iff_ne.mpr (by omega)]; rfl)
              have es : nI (bs (peg W G.1) W.nc) &&& (((1 : Int32) <<< (wo (some c) &&& 31)) ^^^ (-1)) = nI (bs (peg W (G.1.dress k (some c))) W.nc) := by
                show nI (bs (peg W G.1) W.nc) &&& (((1 : Int32) <<< (nI c &&& 31)) ^^^ (-1)) = _
                rw [sh_1 (by omega)]
                refine nb_andn (fun i hi => ?_)
                rw [bs_bit, bs_bit, Nat.testBit_two_pow, peg_dress hkm e2]
                by_cases z : c = i
                · subst z; simp
                · rw [show decide (c = i) = false from decide_eq_false z, show decide (i = c) = false from decide_eq_false (fun y => z y.symm)]; simp [Bool.and_assoc]
              rw [es, f3 1, h1', nI_1]
              refine ih _ (by omega) (pj_fr_u (pj_fr_tr hfr2 (pj_fr_w hf3 (fun c j hc => ?_))) yS_34) (LC_34 hb.1 L3) ?_ ?_
              · have n5 : c ≠ a + 5 := fun z => by rw [z, yS_t (by omega) (by omega)] at hc; cases hc
                have n1 : c ≠ a + 1 := fun z => by rw [z, yS_t (by omega) (by omega)] at hc; cases hc
                show (c == a + 5 || c == a + 1) = false
                rw [beq_eq_false_iff_ne.mpr n5, beq_eq_false_iff_ne.mpr n1]; rfl
              · rw [pj_u_e]; rfl
              · rw [pj_u_j (by decide), f3 2]; exact h2'
/-- Course.oneYear -/
theorem s2 (hh : 6 ≤ h) {w : Option Nat} (ha : a ∈ [35, 43, 51, 252]) (hw : ∀ k, w = some k → k < 2 ^ 31) (hW : CW W 5 I) (hV : WV W) (hL : LC W a L I) (hLV : LV W L) (hy : L.yr < 999) (q : ∀ I', pj_fr (yS a) I I' → LC W a (yea W w L) I' → I' 34 1 = nI (y3 W w L).2 → I' 34 2 = nI (y2 W L).2 → Q none (zc n, I', J)) : pj_D h 2 [.ref 34, .ref a, .int (wo w)] (zc n, I, J) Q := by
  have hb := ha_b ha
  have vv := yea_LV (w := w) hLV
  refine pj_ent (g := 5) hh (t := mt_2) rfl rfl (g2_0 (pj_D_le 5) ha I J _ ?_)
  refine s3 (by decide) ha hW hV hL hLV (fun I1 f1 L1 => kV_i ?_)
  have W1 := CW_y hb.1 f1 hW
  refine s4 (by decide) ha W1 hV L1 vv.1 (fun I2 f2 L2 h2 => kV_i ?_)
  have W2 := CW_y hb.1 f2 W1
  refine s5 (by decide) ha hw W2 hV L2 vv.2.1 (fun I3 f3 L3 h31 h32 => kV_i ?_)
  have W3 := CW_y hb.1 f3 W2
  refine s7 (by decide) ha W3 hV L3 vv.2.2.1 (fun I4 f4 L4 => kV_i ?_)
  have fr := pj_fr_tr (pj_fr_tr (pj_fr_tr f1 f2) f3) (pj_fr_w f4 (fun c j hc => beq_eq_false_iff_ne.mpr (fun z => by rw [z, yS_t (by omega) (by omega)] at hc; cases hc)))
  have L4 : LC W a (y4 W w L) I4 := L4
  have g4 : ∀ j, I4 34 j = I3 34 j := fun j => f4 34 j (beq_eq_false_iff_ne.mpr (by omega))
  have ey := vv.2.2.2.2.1
  rw [L4.1, ey, nI_1]
  refine br_f (nI_ge (b := 999) hy (by decide)) (q _ (pj_fr_u fr yS_7) ⟨?_, fun k hk => ?_, fun k hk => ?_⟩ ?_ ?_)
  · rw [pj_u_e]
    exact congrArg (fun z => nI (z + 1)) ey.symm
  · rw [pj_u_n (by omega), pj_u_n (by omega)]
    exact L4.2.1 k hk
  · rw [pj_u_n (by omega), pj_u_n (by omega), pj_u_n (by omega), pj_u_n (by omega), pj_u_n (by omega)]
    exact L4.2.2 k hk
  · rw [pj_u_n (by omega), g4]; exact h31
  · rw [pj_u_n (by omega), g4, h32]; exact h2
end PYd
