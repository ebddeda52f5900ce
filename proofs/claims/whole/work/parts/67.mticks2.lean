/-! PegCoatsModel.ticks -/
section PTk
variable {n h : Nat} {Q : pj_K} {I : Nat → Nat → Int32} {J : Nat → Nat → Int64} {W : Wk} {L : Ly} {B v : Nat}
theorem uS_k {c j : Nat} (hc : c = 307 ∨ c = 308) : uS v c j = false := by
  rcases hc with rfl | rfl <;> rfl
theorem KM_u {m : Nat} {f : Nat → Nat × Nat × Nat} {I' : Nat → Nat → Int32} (h : pj_fr (uS v) I I') {w : Nat} (hK : KM w m f I) : KM w m f I' :=
  ⟨(h _ _ rfl).trans hK.1, fun i hi => ⟨(h _ _ rfl).trans (hK.2 i hi).1, (h _ _ rfl).trans (hK.2 i hi).2.1, (h _ _ rfl).trans (hK.2 i hi).2.2⟩⟩
theorem B_u {I' : Nat → Nat → Int32} (h : pj_fr (uS v) I I') (hB : I 276 13 = nI B) : I' 276 13 = nI B := (h 276 13 rfl).trans hB
theorem uS_7 {c m : Nat} (hc : 302 ≤ c) (hc2 : c ≤ 305) (hm : m < 7) : uS v c (7 * v + m) = true := by unfold uS; rw [nS_7 hc hc2 hm]; rfl
theorem G_set {G m : Nat} {t : Nat → Bool} {K : Nat} (hG : G < 128) (hm : m < 7) (h : ∀ k, k < K → G.testBit k = !t k) : G ||| 2 ^ m < 128 ∧ ∀ k, k < K → (G ||| 2 ^ m).testBit k = !(upd1 t m false k) := by
  have h2 : (2 : Nat) ^ m < 2 ^ 7 := Nat.pow_lt_pow_right (by decide) hm
  refine ⟨Nat.or_lt_two_pow (n := 7) hG h2, fun k hk => ?_⟩
  rw [Nat.testBit_or, h k hk, Nat.testBit_two_pow]
  by_cases e : k = m
  · subst e; rw [upd1_e]; simp
  · rw [upd1_n e, decide_eq_false (fun z => e z.symm)]; simp
theorem s226 (hh : 6 ≤ h) {m0 : Nat} {f : Nat → Nat × Nat × Nat} {w : Option Nat} (hw : ∀ k, w = some k → k < 2 ^ 31) (hv : v < 22) (hB : I 276 13 = nI B) (hW : MW W B I J) (hV : WV W) (hL : LM W v L I) (hLV : LV W L) (hK : KM v m0 f I) (q : ∀ I' J', pj_fr (tS v) I I' → pj_fr sS J J' → LM W v (yea W w L) I' → KM v (m0 + 1) (upd1 f m0 (L.yr, (y3 W w L).2, (y2 W L).2)) I' → Q (some (.int (nI (y3 W w L).2))) (zc n, I', J')) : pj_D h 226 [.ref 276, .int (nI v), .int (wo w)] (zc n, I, J) Q := by
  have h8 := hW.1.1
  have h7 := hW.1.2.1
  have hB2 := hW.1.2.2.1
  have vv := yea_LV (w := w) hLV
  have iB := vp_in_nI (n := B) hB2 (by decide)
  have eB : (nI B).toNatClampNeg = B := nI_clamp (by omega)
  have iv := pk_in (x := nI v) v 22 hv
  have nmx : nI W.nm ≤ nI W.nm := nI_le (Nat.le_refl _) (by omega)
  refine pj_ent (g := 5) hh (t := mt_226) rfl rfl (v226_0 (pj_D_le 5) I J _ _ ?_)
  have p4 : ∀ r k I' J' (put went : Nat), r + k = W.nm → pj_fr (uS v) I I' → pj_fr sS J J' → LM W v (payN W (y3 W w L).1 k) I' → put = (y3 W w L).2 → went = (y2 W L).2 → pj_R (pj_D 5) ta mc_226 false Q 237 [some (.ref 276), some (.int (nI v)), none, some (.int (nI went)), some (.int (nI put)), some (.int (nI k)), none] [] (zc n) I' J' 0 0 := by
    intro r
    induction r with
    | zero =>
      intro k I' J' put went hk hf hj hL' e1 e2
      obtain rfl : k = W.nm := by omega
      have hW' := MW_t (uS_t hf) hj hW
      refine v226_237 (pj_D_le 5) I' J' _ _ _ _ ?_
      rw [B_u hf hB, eB, hW'.1.2.2.2.2.1]
      refine ⟨iB, br_t nmx ?_⟩
      have ey : (payN W (y3 W w L).1 W.nm).yr = L.yr := vv.2.2.2.2.1
      refine s231 (by decide) (y := L.yr) hv (KM_u hf hK) (by rw [← ey]; exact hL'.1) (fun I2 hf2 hK2 => kV_i ⟨iv, iv, ?_⟩)
      have L2 : LM W v (payN W (y3 W w L).1 W.nm) I2 := by
        obtain ⟨g1, ⟨S, g2, g3, g4⟩, ⟨G, g5, g6, g7⟩, g8, g9⟩ := hL'
        exact ⟨(hf2 _ _ rfl).trans g1, ⟨S, (hf2 _ _ rfl).trans g2, g3, g4⟩, ⟨G, (hf2 _ _ rfl).trans g5, g6, g7⟩, fun k hk => (hf2 _ _ rfl).trans (g8 k hk), fun k hk => ⟨(hf2 _ _ rfl).trans (g9 k hk).1, (hf2 _ _ rfl).trans (g9 k hk).2.1, (hf2 _ _ rfl).trans (g9 k hk).2.2.1, (hf2 _ _ rfl).trans (g9 k hk).2.2.2⟩⟩
      rw [nI_clamp (n := v) (by omega), L2.1, nI_1]
      subst e1 e2
      refine q _ J' (pj_fr_u (pj_fr_tr (uS_t hf) (tS_m (kS_m hf2))) (by unfold tS mS; simp)) hj ?_ ⟨(pj_u_n (by decide)).trans hK2.1, fun i hi => ⟨(pj_u_n (by decide)).trans (hK2.2 i hi).1, (pj_u_n (by decide)).trans (hK2.2 i hi).2.1, (pj_u_n (by decide)).trans (hK2.2 i hi).2.2⟩⟩
      obtain ⟨g1, ⟨S, g2, g3, g4⟩, ⟨G, g5, g6, g7⟩, g8, g9⟩ := L2
      exact ⟨pj_u_e, ⟨S, (pj_u_n (by decide)).trans g2, g3, g4⟩, ⟨G, (pj_u_n (by decide)).trans g5, g6, g7⟩, fun k hk => (pj_u_n (by decide)).trans (g8 k hk), fun k hk => ⟨(pj_u_n (by decide)).trans (g9 k hk).1, (pj_u_n (by decide)).trans (g9 k hk).2.1, (pj_u_n (by decide)).trans (g9 k hk).2.2.1, (pj_u_n (by decide)).trans (g9 k hk).2.2.2⟩⟩
    | succ r ih =>
      intro k I' J' put went hk hf hj hL' e1 e2
      have hkm : k < W.nm := by omega
      have hW' := MW_t (uS_t hf) hj hW
      have gv := (payN_LV vv.2.2.1 k).1
      obtain ⟨l1, l2, l3, l4⟩ := hL'.2.2.2.2 k hkm
      have i7 := pk_in (x := nI (7 * v + k)) (7 * v + k) 154 (by omega)
      refine v226_237 (pj_D_le 5) I' J' _ _ _ _ ?_
      have ih := ih (k + 1)
      have eg : payN W (y3 W w L).1 (k + 1) = pay W (payN W (y3 W w L).1 k) k := rfl
      rw [eg] at ih
      rw [B_u hf hB, eB, hW'.1.2.2.2.2.1, li_7, nI_clamp (n := 7 * v + k) (by omega), l3, l4, nI_1]
      refine ⟨iB, br_f (nI_ge hkm (by omega)) ⟨i7, ?_⟩⟩
      generalize payN W (y3 W w L).1 k = G at gv l1 l2 l3 l4 hL' ih
      unfold pay at ih
      have hwn := wo_none (o := G.wor k) (fun c' e' => by have := (gv.2.2.2.1 k c' hkm e').1; omega)
      cases e : G.wor k with
      | none =>
        rw [e] at ih
        exact ⟨fun z => absurd rfl z, fun _ => ih I' J' put went (by omega) hf hj hL' e1 e2⟩
      | some c =>
        rw [e] at ih hwn l3
        have hc := (gv.2.2.2.1 k c hkm e).1
        have hp := (hV.2.2.1 c hc).2.2.1
        have hpu := (gv.2.2.1 k hkm).2.2.2
        refine ⟨fun _ => ⟨i7, i7, ?_⟩, fun z => (by have := hwn.mp z; cases this)⟩
        have e8 : (8 : Int32) * nI B + wo (some c) = nI (8 * B + c) := li_8 B c
        rw [e8, nI_clamp (n := 8 * B + c) (by omega), (hW'.1.2.2.2.2.2 c hc).2, nI_add]
        have LL : ∀ x, x = (if G.pur k + W.cpy c < 9999 then G.pur k + W.cpy c else 9999) → LM W v (G.yr, G.lin, G.bur, G.siz, G.age, G.wor, upd1 G.pur k (if G.pur k + W.cpy c < 9999 then G.pur k + W.cpy c else 9999), G.the) (pj_u I' 305 (7 * v + k) (nI x)) := fun x hx => by
          refine LM_m (m := k) hL' rfl rfl rfl (fun j hj => ⟨rfl, rfl, rfl, upd1_n hj⟩) ?_ (fun c j hc => pj_u_n (by omega)) (fun c j _ _ hj => pj_u_j hj) ⟨?_, ?_, ?_, ?_⟩
          · obtain ⟨G', q1, q2, q3⟩ := hL'.2.2.1
            exact ⟨G', (pj_u_n (by decide)).trans q1, q2, q3⟩
          · rw [pj_u_n (by decide)]; exact l1
          · rw [pj_u_n (by decide)]; exact l2
          · rw [pj_u_n (by decide), l3]; exact congrArg wo e.symm
          · rw [pj_u_e, hx]; exact congrArg nI upd1_e.symm
        refine ⟨pk_in (8 * B + c) 16 (by omega), pk_le (G.pur k + W.cpy c) 9999 (fun d => ⟨i7, ?_⟩) (fun d => ⟨i7, ?_⟩)⟩
        · exact ih _ J' put went (by omega) (pj_fr_u hf (uS_7 (by decide) (by decide) (by omega))) hj (LL _ (by split <;> omega)) e1 e2
        · exact ih _ J' put went (by omega) (pj_fr_u hf (uS_7 (by decide) (by decide) (by omega))) hj (LL 9999 (by split <;> omega)) e1 e2
  have p3 : ∀ r k I' J' (went : Nat), r + k = W.nm → pj_fr (uS v) I I' → pj_fr sS J J' → LM W v (drsN W w (y2 W L).1 k).1 I' → went = (y2 W L).2 → pj_R (pj_D 5) ta mc_226 false Q 123 [some (.ref 276), some (.int (nI v)), some (.int (wo w)), some (.int (nI went)), some (.int (nI (drsN W w (y2 W L).1 k).2)), some (.int (nI k)), none] [] (zc n) I' J' 0 0 := by
    intro r
    induction r with
    | zero =>
      intro k I' J' went hk hf hj hL' e2
      obtain rfl : k = W.nm := by omega
      have hW' := MW_t (uS_t hf) hj hW
      refine v226_123 (pj_D_le 5) I' J' _ _ _ _ _ ?_
      rw [B_u hf hB, eB, hW'.1.2.2.2.2.1]
      exact ⟨iB, br_t nmx (p4 W.nm 0 I' J' _ went (by omega) hf hj hL' rfl e2)⟩
    | succ r ih =>
      intro k I' J' went hk hf hj hL' e2
      have hkm : k < W.nm := by omega
      have hW' := MW_t (uS_t hf) hj hW
      have hB' := B_u hf hB
      have gv := (drsN_LV (w := w) vv.2.1 k).1
      obtain ⟨l1, l2, l3, l4⟩ := hL'.2.2.2.2 k hkm
      obtain ⟨Gb, b1, b2, b3⟩ := hL'.2.2.1
      have i7 := pk_in (x := nI (7 * v + k)) (7 * v + k) 154 (by omega)
      refine v226_123 (pj_D_le 5) I' J' _ _ _ _ _ ?_
      have ih := ih (k + 1)
      have eg : drsN W w (y2 W L).1 (k + 1) = drs W w (drsN W w (y2 W L).1 k) k := rfl
      rw [eg] at ih
      rw [hB', eB, hW'.1.2.2.2.2.1]
      refine ⟨iB, br_f (nI_ge hkm (by omega)) (s206 (by decide) hv b1 (by omega) (by omega) (kI_i ?_))⟩
      rw [b3 k hkm, Bool.not_not, li_7, nI_clamp (n := 7 * v + k) (by omega), l1, l2, l3, nI_1, nI_1]
      have z0 : ∀ x : Nat, nI x + 0 = nI x := fun x => nI_add x 0
      generalize drsN W w (y2 W L).1 k = G at gv l1 l2 l3 l4 b3 hL' ih
      rw [z0]
      unfold drs at ih
      cases e : G.1.the k with
      | false =>
        rw [e] at ih
        exact ⟨fun _ => ih I' J' went (by omega) hf hj hL' e2, fun z => absurd rfl z⟩
      | true =>
        rw [e, Bool.true_and] at ih
        refine ⟨fun z => absurd z (by decide), fun _ => ⟨i7, ?_⟩⟩
        have hwn := wo_none (o := G.1.wor k) (fun c' e' => by have := (gv.2.2.2.1 k c' hkm e').1; omega)
        cases ew : G.1.wor k with
        | some c =>
          rw [ew] at ih hwn
          exact ⟨fun _ => ih I' J' went (by omega) hf hj hL' e2, fun z => (by have := hwn.mp z; cases this)⟩
        | none =>
          rw [ew] at ih
          refine ⟨fun z => absurd rfl z, fun _ => ?_⟩
          have ee : nI k = wo w ↔ w = some k := ⟨fun z => (wo_eq hw (by omega)).mp z.symm, fun z => by rw [z]; rfl⟩
          rw [ee]
          by_cases e3 : w = some k
          · rw [decide_eq_true e3] at ih
            exact ⟨fun z => absurd e3 z, fun _ => ih I' J' went (by omega) hf hj hL' e2⟩
          · rw [decide_eq_false e3] at ih
            refine ⟨fun _ => ⟨i7, i7, ?_⟩, fun z => absurd z e3⟩
            have g2 := gv.2.2.1 k hkm
            refine s229 (by decide) hv hB' hW' hV hL' gv (by omega) (by omega) (fun I2 J2 hf2 hj2 => kI_i ?_)
            have L2 := LM_a hf2 hL'
            have hfr2 := pj_fr_tr hf (uS_a hf2)
            refine s230 (by decide) hv h8 h7 L2 gv.2.1 (fun j c hj hc => (gv.2.2.2.1 j c hj hc).1) hkm (fun c hc => (bst_p hc).1) (fun c _ z => by rw [ew] at z; cases z) (fun I3 L3 hf3 => kV_i ?_)
            have hfr3 := pj_fr_tr hfr2 (uS_n hf3)
            cases e4 : bst W G.1 (G.1.siz k) (G.1.age k) with
            | none =>
              rw [e4] at ih L3
              refine ⟨fun z => absurd rfl z, fun _ => ih I3 J2 went (by omega) hfr3 (pj_fr_tr hj hj2) ?_ e2⟩
              obtain ⟨g1, g2, g3, g8, g9⟩ := L3
              refine ⟨g1, g2, g3, g8, fun j hj => ?_⟩
              obtain ⟨r1, r2, r3, r4⟩ := g9 j hj
              refine ⟨r1, r2, ?_, r4⟩
              rw [dress_wor] at r3
              rw [r3]
              by_cases d : j = k
              · rw [if_pos d, d]; exact congrArg wo ew.symm
              · rw [if_neg d]; rfl
            | some c =>
              rw [e4] at ih L3
              have bc := bst_p e4
              refine ⟨fun _ => ih I3 J2 went (by omega) hfr3 (pj_fr_tr hj hj2) L3 e2, fun z => ?_⟩
              have := (wo_none (o := some c) (fun c' e' => by cases e'; omega)).mp z
              cases this
  have p2 : ∀ r k I' J', r + k = W.nm → pj_fr (uS v) I I' → pj_fr sS J J' → LM W v (leaN W (y1 W L) k).1 I' → pj_R (pj_D 5) ta mc_226 false Q 48 [some (.ref 276), some (.int (nI v)), some (.int (wo w)), some (.int (nI (leaN W (y1 W L) k).2)), some (.int 0), some (.int (nI k)), none] [] (zc n) I' J' 0 0 := by
    intro r
    induction r with
    | zero =>
      intro k I' J' hk hf hj hL'
      obtain rfl : k = W.nm := by omega
      have hW' := MW_t (uS_t hf) hj hW
      refine v226_48 (pj_D_le 5) I' J' _ _ _ _ _ ?_
      rw [B_u hf hB, eB, hW'.1.2.2.2.2.1]
      exact ⟨iB, br_t nmx (p3 W.nm 0 I' J' _ (by omega) hf hj hL' rfl)⟩
    | succ r ih =>
      intro k I' J' hk hf hj hL'
      have hkm : k < W.nm := by omega
      have hW' := MW_t (uS_t hf) hj hW
      have hB' := B_u hf hB
      have gv := (leaN_LV vv.1 k).1
      obtain ⟨Gb, b1, b2, b3⟩ := hL'.2.2.1
      have i7 := pk_in (x := nI (7 * v + k)) (7 * v + k) 154 (by omega)
      refine v226_48 (pj_D_le 5) I' J' _ _ _ _ _ ?_
      have ih := ih (k + 1)
      have eg : leaN W (y1 W L) (k + 1) = lea W (leaN W (y1 W L) k) k := rfl
      rw [eg] at ih
      rw [hB', eB, hW'.1.2.2.2.2.1]
      refine ⟨iB, br_f (nI_ge hkm (by omega)) (s206 (by decide) hv b1 (by omega) (by omega) (kI_i ?_))⟩
      rw [b3 k hkm, Bool.not_not, nI_1, nI_1]
      generalize leaN W (y1 W L) k = G at gv b3 hL' ih
      unfold lea at ih
      cases e : G.1.the k with
      | false =>
        rw [e] at ih
        exact ⟨fun _ => ih I' J' (by omega) hf hj hL', fun z => absurd rfl z⟩
      | true =>
        rw [e] at ih
        refine ⟨fun z => absurd z (by decide), fun _ => s228 (by decide) hv hB' hW' hV hL' gv hkm (fun I2 J2 hf2 hj2 => kI_i ?_)⟩
        have L2 := LM_a hf2 hL'
        have hfr2 := pj_fr_tr hf (uS_a hf2)
        obtain ⟨l1, l2, l3, l4⟩ := L2.2.2.2.2 k hkm
        cases e2 : lvm W G.1 k with
        | false =>
          rw [e2] at ih
          exact ⟨fun z => absurd rfl z, fun _ => ih I2 J2 (by omega) hfr2 (pj_fr_tr hj hj2) L2⟩
        | true =>
          rw [e2] at ih
          refine ⟨fun _ => ⟨iv, iv, ?_⟩, fun z => absurd z (by decide)⟩
          have b1' : I2 306 v = nI Gb := (hf2 306 v rfl).trans b1
          rw [li_7, nI_clamp (n := 7 * v + k) (by omega), nI_clamp (n := v) (by omega), b1', sh_1 (by omega), nb_or]
          have gs := G_set (m := k) b2 (by omega) b3
          refine ⟨i7, ih _ J2 (by omega) (pj_fr_u (pj_fr_u hfr2 (by unfold uS nS; simp)) (uS_7 (by decide) (by decide) (by omega))) (pj_fr_tr hj hj2) ?_⟩
          refine LM_m (m := k) L2 rfl rfl rfl (fun j hj => ⟨rfl, rfl, upd1_n hj, rfl⟩) ⟨Gb ||| 2 ^ k, ?_, gs.1, gs.2⟩ (fun c j hc => (pj_u_n (by omega)).trans (pj_u_n (by omega))) (fun c j h1 h2 hj => (pj_u_j hj).trans (pj_u_n (by omega))) ⟨?_, ?_, ?_, ?_⟩
          · rw [pj_u_n (by decide), pj_u_e]
          · rw [pj_u_n (by decide), pj_u_n (by decide)]; exact l1
          · rw [pj_u_n (by decide), pj_u_n (by decide)]; exact l2
          · rw [pj_u_e]
            show (-1 : Int32) = wo (upd1 G.1.wor k none k)
            rw [upd1_e]; rfl
          · rw [pj_u_n (by decide), pj_u_n (by decide)]; exact l4
  suffices p1 : ∀ r k I' J', r + k = W.nm → pj_fr (uS v) I I' → pj_fr sS J J' → LM W v (groN W L k) I' → pj_R (pj_D 5) ta mc_226 false Q 8 [some (.ref 276), some (.int (nI v)), some (.int (wo w)), some (.int 0), some (.int 0), some (.int (nI k)), none] [] (zc n) I' J' 0 0 from p1 W.nm 0 I J (by omega) pj_fr_rf pj_fr_rf hL
  intro r
  induction r with
  | zero =>
    intro k I' J' hk hf hj hL'
    obtain rfl : k = W.nm := by omega
    have hW' := MW_t (uS_t hf) hj hW
    refine v226_8 (pj_D_le 5) I' J' _ _ _ _ _ ?_
    rw [B_u hf hB, eB, hW'.1.2.2.2.2.1]
    exact ⟨iB, br_t nmx (p2 W.nm 0 I' J' (by omega) hf hj hL')⟩
  | succ r ih =>
    intro k I' J' hk hf hj hL'
    have hkm : k < W.nm := by omega
    have hW' := MW_t (uS_t hf) hj hW
    have hB' := B_u hf hB
    have gv := (groN_LV hLV k).1
    obtain ⟨Gb, b1, b2, b3⟩ := hL'.2.2.1
    refine v226_8 (pj_D_le 5) I' J' _ _ _ _ _ ?_
    have ih := ih (k + 1)
    have eg : groN W L (k + 1) = gro W (groN W L k) k := rfl
    rw [eg] at ih
    rw [hB', eB, hW'.1.2.2.2.2.1]
    refine ⟨iB, br_f (nI_ge hkm (by omega)) (s206 (by decide) hv b1 (by omega) (by omega) (kI_i ?_))⟩
    rw [b3 k hkm, Bool.not_not, nI_1]
    generalize groN W L k = G at gv b3 hL' ih
    cases e : G.the k with
    | false =>
      have eg2 : gro W G k = G := by unfold gro; rw [e]
      rw [eg2] at ih
      exact ⟨fun _ => ih I' J' (by omega) hf hj hL', fun z => absurd rfl z⟩
    | true =>
      refine ⟨fun z => absurd z (by decide), fun _ => s227 (by decide) hv hB' hW' hV hL' gv hkm e (fun I2 J2 hf2 hj2 L2 => kV_i ?_)⟩
      exact ih I2 J2 (by omega) (pj_fr_tr hf hf2) (pj_fr_tr hj hj2) L2
end PTk
