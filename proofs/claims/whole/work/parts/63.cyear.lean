/-! a year: the class -/
def yS (a : Nat) : Nat → Nat → Bool := fun c j => Nat.ble (a + 1) c && Nat.ble c (a + 7) || c == a && j == 7 || c == 16 || c == 17 || c == 34
section PYc
variable {n h : Nat} {Q : pj_K} {I : Nat → Nat → Int32} {J : Nat → Nat → Int64} {W : Wk} {L : Ly} {a : Nat}
theorem ha_b (ha : a ∈ [35, 43, 51, 252]) : 35 ≤ a ∧ a ≤ 252 := by
  simp only [List.mem_cons, List.not_mem_nil, or_false] at ha
  omega
theorem yS_f {c j : Nat} (h1 : c < a + 1 ∨ a + 7 < c) (h2 : c ≠ a ∨ j ≠ 7) (h3 : c ≠ 16) (h4 : c ≠ 17) (h5 : c ≠ 34) : yS a c j = false := by
  unfold yS
  have e1 : (Nat.ble (a + 1) c && Nat.ble c (a + 7)) = false := by
    rw [Bool.and_eq_false_iff]
    rcases h1 with q | q
    · left; rw [← Bool.not_eq_true, Nat.ble_eq]; omega
    · right; rw [← Bool.not_eq_true, Nat.ble_eq]; omega
  have e2 : (c == a && j == 7) = false := by
    rw [Bool.and_eq_false_iff, beq_eq_false_iff_ne, beq_eq_false_iff_ne]
    exact h2
  rw [e1, e2, beq_eq_false_iff_ne.mpr h3, beq_eq_false_iff_ne.mpr h4, beq_eq_false_iff_ne.mpr h5]
  rfl
theorem yS_t {c j : Nat} (h1 : a + 1 ≤ c) (h2 : c ≤ a + 7) : yS a c j = true := by
  unfold yS
  rw [Nat.ble_eq_true_of_le h1, Nat.ble_eq_true_of_le h2]
  rfl
theorem yS_34 {j : Nat} : yS a 34 j = true := by
  unfold yS
  simp
theorem yS_7 : yS a a 7 = true := by
  unfold yS
  simp
theorem cS_a {c j : Nat} (h : 34 ≤ c) : cS c j = false := by
  unfold cS
  rw [beq_eq_false_iff_ne.mpr (by omega), beq_eq_false_iff_ne.mpr (by omega)]
  rfl
theorem cS_yS {I' : Nat → Nat → Int32} (h : pj_fr cS I I') : pj_fr (yS a) I I' := pj_fr_w h (fun c j hc => by
  unfold yS at hc
  simp only [Bool.or_eq_false_iff] at hc
  unfold cS
  rw [hc.1.1.2, hc.1.2]
  rfl)
theorem CW_y {I' : Nat → Nat → Int32} (ha : 35 ≤ a) (h : pj_fr (yS a) I I') (hW : CW W 5 I) : CW W 5 I' :=
  CW_fr (fun c j h1 h2 => h c j (yS_f (by omega) (by omega) (by omega) (by omega) (by omega))) hW
theorem LC_c {I' : Nat → Nat → Int32} (ha : 35 ≤ a) (h : pj_fr cS I I') (hL : LC W a L I) : LC W a L I' := by
  have f : ∀ c j, 35 ≤ c → I' c j = I c j := fun c j hc => h c j (cS_a (by omega))
  exact ⟨(f _ _ (by omega)).trans hL.1, fun k hk => ⟨(f _ _ (by omega)).trans (hL.2.1 k hk).1, (f _ _ (by omega)).trans (hL.2.1 k hk).2⟩, fun k hk => ⟨(f _ _ (by omega)).trans (hL.2.2 k hk).1, (f _ _ (by omega)).trans (hL.2.2 k hk).2.1, (f _ _ (by omega)).trans (hL.2.2 k hk).2.2.1, (f _ _ (by omega)).trans (hL.2.2 k hk).2.2.2.1, (f _ _ (by omega)).trans (hL.2.2 k hk).2.2.2.2⟩⟩
/-- one man is changed -/
theorem LC_m {m : Nat} {L' : Ly} {I' : Nat → Nat → Int32} (hL : LC W a L I) (g1 : L'.yr = L.yr) (g2 : L'.lin = L.lin) (g3 : L'.bur = L.bur) (ho : ∀ k, k ≠ m → L'.siz k = L.siz k ∧ L'.age k = L.age k ∧ L'.wor k = L.wor k ∧ L'.pur k = L.pur k ∧ L'.the k = L.the k)
    (f1 : I' a 7 = I a 7) (f2 : ∀ i k, 1 ≤ i → i ≤ 2 → I' (a + i) k = I (a + i) k) (f3 : ∀ i k, 3 ≤ i → i ≤ 7 → k ≠ m → I' (a + i) k = I (a + i) k)
    (hm : I' (a + 3) m = nI (L'.siz m) ∧ I' (a + 4) m = nI (L'.age m) ∧ I' (a + 5) m = wo (L'.wor m) ∧ I' (a + 6) m = nI (L'.pur m) ∧ I' (a + 7) m = bi (L'.the m)) : LC W a L' I' := by
  refine ⟨f1.trans (by rw [g1]; exact hL.1), fun k hk => ⟨(f2 1 k (by decide) (by decide)).trans (by rw [g2]; exact (hL.2.1 k hk).1), (f2 2 k (by decide) (by decide)).trans (by rw [g3]; exact (hL.2.1 k hk).2)⟩, fun k hk => ?_⟩
  by_cases c : k = m
  · rw [c]; exact hm
  · obtain ⟨o1, o2, o3, o4, o5⟩ := ho k c
    obtain ⟨q1, q2, q3, q4, q5⟩ := hL.2.2 k hk
    rw [o1, o2, o3, o4, o5]
    exact ⟨(f3 3 k (by decide) (by decide) c).trans q1, (f3 4 k (by decide) (by decide) c).trans q2, (f3 5 k (by decide) (by decide) c).trans q3, (f3 6 k (by decide) (by decide) c).trans q4, (f3 7 k (by decide) (by decide) c).trans q5⟩
theorem mn_i {x b : Nat} (hx : x < 2 ^ 31) (hb : b < 2 ^ 31) : (if nI x < nI b then nI x else nI b) = nI (if x < b then x else b) := by
  by_cases c : x < b
  · rw [if_pos c, if_pos (nI_lt c hb)]
  · rw [if_neg c, if_neg (nI_nlt (by omega) hx)]
/-- Course.growAll -/
theorem s3 (hh : 4 ≤ h) (ha : a ∈ [35, 43, 51, 252]) (hW : CW W 5 I) (hV : WV W) (hL : LC W a L I) (hLV : LV W L) (q : ∀ I', pj_fr (yS a) I I' → LC W a (y1 W L) I' → Q none (zc n, I', J)) : pj_D h 3 [.ref 34, .ref a] (zc n, I, J) Q := by
  have hb := ha_b ha
  refine pj_ent (g := 3) hh (t := mt_3) rfl rfl (g3_0 (pj_D_le 3) ha I J ?_)
  suffices loop : ∀ m k I', m + k = W.nm → pj_fr (yS a) I I' → LC W a (groN W L k) I' → pj_R (pj_D 3) ta mc_3 false Q 2 [some (.ref 34), some (.ref a), some (.int (nI k))] [] (zc n) I' J 0 0 from loop W.nm 0 I (by omega) pj_fr_rf hL
  intro m
  induction m with
  | zero =>
    intro k I' hk hf hL'
    obtain rfl : k = W.nm := by omega
    have hW' := CW_y hb.1 hf hW
    refine g3_2 (pj_D_le 3) ha I' J _ ?_
    rw [hW'.1.2.2.2.1]
    exact br_t (nI_le (Nat.le_refl _) (by have := hW.1.2.1; omega)) (q I' hf hL')
  | succ m ih =>
    intro k I' hk hf hL'
    have hW' := CW_y hb.1 hf hW
    have h7 := hW.1.2.1
    have hkm : k < W.nm := by omega
    have gv := (groN_LV hLV k).1
    obtain ⟨l1, l2, l3, l4, l5⟩ := hL'.2.2 k hkm
    refine g3_2 (pj_D_le 3) ha I' J _ ?_
    have i7 := pk_in (x := nI k) k 7 (by omega)
    have ih := ih (k + 1)
    have eg : groN W L (k + 1) = gro W (groN W L k) k := rfl
    rw [eg] at ih
    rw [hW'.1.2.2.2.1, nI_clamp (n := k) (by omega), l1, l2, l5, hL'.1, nI_1]
    refine br_f (nI_ge hkm (by omega)) ⟨i7, ?_⟩
    generalize groN W L k = G at gv l1 l2 l3 l4 l5 hL' ih
    unfold gro at ih
    cases e : G.the k with
    | false =>
      rw [e] at ih
      exact ⟨fun _ => ih I' (by omega) hf hL', fun z => absurd rfl z⟩
    | true =>
      rw [e] at ih
      refine ⟨fun z => absurd z (by decide), fun _ => ⟨i7, i7, ?_⟩⟩
      have g2 := gv.2.2.1 k hkm
      have g0 := gv.1
      refine s108 (Nat.le_refl 3) hW' hV (by omega) (by omega) (by omega) (fun I2 hf2 => kI_i ⟨i7, i7, i7, ?_⟩)
      have L2 := LC_c hb.1 hf2 hL'
      refine ih _ (by omega) (pj_fr_u (pj_fr_u (pj_fr_tr hf (cS_yS hf2)) (yS_t (by omega) (by omega))) (yS_t (by omega) (by omega))) (LC_m (m := k) L2 rfl rfl rfl (fun j hj => ⟨upd1_n hj, upd1_n hj, rfl, rfl, rfl⟩) ?_ (fun i j h1 h2 => ?_) (fun i j _ _ hj => (pj_u_j hj).trans (pj_u_j hj)) ⟨?_, ?_, ?_, ?_, ?_⟩)
      · exact (pj_u_n (by omega)).trans (pj_u_n (by omega))
      · exact (pj_u_n (by omega)).trans (pj_u_n (by omega))
      · rw [pj_u_n (by omega), pj_u_e]
        exact congrArg nI upd1_e.symm
      · rw [pj_u_e, (L2.2.2 k hkm).2.1, nI_1]
        have e9 : (if nI (G.age k + 1) < 99 then nI (G.age k + 1) else 99) = nI (if G.age k + 1 < 99 then G.age k + 1 else 99) := mn_i (b := 99) (by omega) (by decide)
        rw [e9]
        exact congrArg nI upd1_e.symm
      · rw [pj_u_n (by omega), pj_u_n (by omega)]
        exact (L2.2.2 k hkm).2.2.1
      · rw [pj_u_n (by omega), pj_u_n (by omega)]
        exact (L2.2.2 k hkm).2.2.2.1
      · rw [pj_u_n (by omega), pj_u_n (by omega)]
        exact (L2.2.2 k hkm).2.2.2.2
/-- Course.leaveAll -/
theorem s4 (hh : 4 ≤ h) (ha : a ∈ [35, 43, 51, 252]) (hW : CW W 5 I) (hV : WV W) (hL : LC W a L I) (hLV : LV W L) (q : ∀ I', pj_fr (yS a) I I' → LC W a (leaN W L W.nm).1 I' → I' 34 2 = nI (leaN W L W.nm).2 → Q none (zc n, I', J)) : pj_D h 4 [.ref 34, .ref a] (zc n, I, J) Q := by
  have hb := ha_b ha
  have n34 : a + 7 < 34 ∨ 34 < a := by omega
  refine pj_ent (g := 3) hh (t := mt_4) rfl rfl (g4_0 (pj_D_le 3) ha I J ?_)
  suffices loop : ∀ m k I', m + k = W.nm → pj_fr (yS a) I I' → LC W a (leaN W L k).1 I' → I' 34 2 = nI (leaN W L k).2 → pj_R (pj_D 3) ta mc_4 false Q 7 [some (.ref 34), some (.ref a), some (.int (nI k))] [] (zc n) I' J 0 0 from
    loop W.nm 0 _ (by omega) (pj_fr_u pj_fr_rf yS_34) ⟨(pj_u_n (by omega)).trans hL.1, fun k hk => ⟨(pj_u_n (by omega)).trans (hL.2.1 k hk).1, (pj_u_n (by omega)).trans (hL.2.1 k hk).2⟩, fun k hk => ⟨(pj_u_n (by omega)).trans (hL.2.2 k hk).1, (pj_u_n (by omega)).trans (hL.2.2 k hk).2.1, (pj_u_n (by omega)).trans (hL.2.2 k hk).2.2.1, (pj_u_n (by omega)).trans (hL.2.2 k hk).2.2.2.1, (pj_u_n (by omega)).trans (hL.2.2 k hk).2.2.2.2⟩⟩ pj_u_e
  intro m
  induction m with
  | zero =>
    intro k I' hk hf hL' h34
    obtain rfl : k = W.nm := by omega
    have hW' := CW_y hb.1 hf hW
    refine g4_7 (pj_D_le 3) ha I' J _ ?_
    rw [hW'.1.2.2.2.1]
    exact br_t (nI_le (Nat.le_refl _) (by have := hW.1.2.1; omega)) (q I' hf hL' h34)
  | succ m ih =>
    intro k I' hk hf hL' h34
    have hW' := CW_y hb.1 hf hW
    have h7 := hW.1.2.1
    have hkm : k < W.nm := by omega
    have gv := (leaN_LV hLV k).1
    obtain ⟨l1, l2, l3, l4, l5⟩ := hL'.2.2 k hkm
    refine g4_7 (pj_D_le 3) ha I' J _ ?_
    have i7 := pk_in (x := nI k) k 7 (by omega)
    have ih := ih (k + 1)
    have eg : leaN W L (k + 1) = lea W (leaN W L k) k := rfl
    rw [eg] at ih
    rw [hW'.1.2.2.2.1, nI_clamp (n := k) (by omega), l5, nI_1]
    refine br_f (nI_ge hkm (by omega)) ⟨i7, ?_⟩
    generalize leaN W L k = G at gv l1 l2 l3 l4 l5 hL' h34 ih
    unfold lea at ih
    cases e : G.1.the k with
    | false =>
      rw [e] at ih
      exact ⟨fun _ => ih I' (by omega) hf hL' h34, fun z => absurd rfl z⟩
    | true =>
      rw [e] at ih
      refine ⟨fun z => absurd z (by decide), fun _ => ?_⟩
      refine s109 (Nat.le_refl 3) ha hW' hV hL' gv hkm (fun I2 hf2 => kI_i ?_)
      have L2 := LC_c hb.1 hf2 hL'
      have h2 : I2 34 2 = nI G.2 := (hf2 34 2 rfl).trans h34
      cases e2 : lvm W G.1 k with
      | false =>
        rw [e2] at ih
        exact ⟨fun _ => ih I2 (by omega) (pj_fr_tr hf (cS_yS hf2)) L2 h2, fun z => absurd rfl z⟩
      | true =>
        rw [e2] at ih
        refine ⟨fun z => absurd z (by decide), fun _ => ⟨i7, i7, ?_⟩⟩
        refine ih _ (by omega) (pj_fr_u (pj_fr_u (pj_fr_u (pj_fr_tr hf (cS_yS hf2)) (yS_t (by omega) (by omega))) (yS_t (by omega) (by omega))) yS_34) (LC_m (m := k) L2 rfl rfl rfl (fun j hj => ⟨rfl, rfl, upd1_n hj, rfl, upd1_n hj⟩) ?_ (fun i j h1 h2 => ?_) (fun i j h1 h2 hj => ?_) ⟨?_, ?_, ?_, ?_, ?_⟩) ?_
        · exact (pj_u_n (by omega)).trans ((pj_u_n (by omega)).trans (pj_u_n (by omega)))
        · exact (pj_u_n (by omega)).trans ((pj_u_n (by omega)).trans (pj_u_n (by omega)))
        · exact (pj_u_n (by omega)).trans ((pj_u_j hj).trans (pj_u_j hj))
        · rw [pj_u_n (by omega), pj_u_n (by omega), pj_u_n (by omega)]
          exact (L2.2.2 k hkm).1
        · rw [pj_u_n (by omega), pj_u_n (by omega), pj_u_n (by omega)]
          exact (L2.2.2 k hkm).2.1
        · rw [pj_u_n (by omega), pj_u_e]
          show (-1 : Int32) = wo (upd1 G.1.wor k none k)
          rw [upd1_e]; rfl
        · rw [pj_u_n (by omega), pj_u_n (by omega), pj_u_n (by omega)]
          exact (L2.2.2 k hkm).2.2.2.1
        · rw [pj_u_n (by omega), pj_u_n (by omega), pj_u_e]
          show (0 &&& 1 : Int32) = bi (upd1 G.1.the k false k)
          rw [upd1_e]; decide
        · rw [pj_u_e, h2, nI_1]; rfl
/-- Course.payAll -/
theorem s7 (hh : 1 ≤ h) (ha : a ∈ [35, 43, 51, 252]) (hW : CW W 5 I) (hV : WV W) (hL : LC W a L I) (hLV : LV W L) (q : ∀ I', pj_fr (fun c _ => c == a + 6) I I' → LC W a (payN W L W.nm) I' → Q none (zc n, I', J)) : pj_D h 7 [.ref 34, .ref a] (zc n, I, J) Q := by
  have hb := ha_b ha
  obtain ⟨w1, w2, w3, w4, w5⟩ := hW.1
  have fw : ∀ {I' : Nat → Nat → Int32} (c j : Nat), pj_fr (fun c _ => c == a + 6) I I' → c ≠ a + 6 → I' c j = I c j := fun c j hf hc => hf c j (beq_eq_false_iff_ne.mpr hc)
  refine pj_ent (g := 0) hh (t := mt_7) rfl rfl (g7_0 (pj_D_le 0) ha I J ?_)
  suffices loop : ∀ m k I', m + k = W.nm → pj_fr (fun c _ => c == a + 6) I I' → LC W a (payN W L k) I' → pj_R (pj_D 0) ta mc_7 false Q 2 [some (.ref 34), some (.ref a), some (.int (nI k)), none] [] (zc n) I' J 0 0 from loop W.nm 0 I (by omega) pj_fr_rf hL
  intro m
  induction m with
  | zero =>
    intro k I' hk hf hL'
    obtain rfl : k = W.nm := by omega
    refine g7_2 (pj_D_le 0) ha I' J _ ?_
    rw [fw 5 13 hf (by omega), w4]
    exact br_t (nI_le (Nat.le_refl _) (by omega)) (q I' hf hL')
  | succ m ih =>
    intro k I' hk hf hL'
    have hkm : k < W.nm := by omega
    have gv := (payN_LV hLV k).1
    obtain ⟨l1, l2, l3, l4, l5⟩ := hL'.2.2 k hkm
    refine g7_2 (pj_D_le 0) ha I' J _ ?_
    have i7 := pk_in (x := nI k) k 7 (by omega)
    have ih := ih (k + 1)
    have eg : payN W L (k + 1) = pay W (payN W L k) k := rfl
    rw [eg] at ih
    rw [fw 5 13 hf (by omega), w4, nI_clamp (n := k) (by omega), l3, l4, nI_1]
    refine br_f (nI_ge hkm (by omega)) ⟨i7, ?_⟩
    generalize payN W L k = G at gv l1 l2 l3 l4 l5 hL' ih
    unfold pay at ih
    have hwn := wo_none (o := G.wor k) (fun c' e' => by have := (gv.2.2.2.1 k c' hkm e').1; omega)
    cases e : G.wor k with
    | none =>
      rw [e] at ih
      exact ⟨fun _ => ih I' (by omega) hf hL', fun z => absurd rfl z⟩
    | some c =>
      rw [e] at ih hwn
      have hc := (gv.2.2.2.1 k c hkm e).1
      have hp := (hV.2.2.1 c hc).2.2.1
      have hpu := (gv.2.2.1 k hkm).2.2.2
      refine ⟨fun z => (by have := hwn.mp z; cases this), fun _ => ⟨i7, pk_in c 8 (by omega), i7, ?_⟩⟩
      have e8 : I' 8 (wo (some c)).toNatClampNeg = nI (W.cpy c) := by
        have : (wo (some c)).toNatClampNeg = c := nI_clamp (n := c) (by omega)
        rw [this, fw 8 c hf (by omega)]
        exact (w5 c hc).2
      rw [e8, nI_add]
      refine ih _ (by omega) (pj_fr_u hf (by simp)) (LC_m (m := k) hL' rfl rfl rfl (fun j hj => ⟨rfl, rfl, rfl, upd1_n hj, rfl⟩) (pj_u_n (by omega)) (fun i j _ _ => pj_u_n (by omega)) (fun i j _ _ hj => pj_u_j hj) ⟨?_, ?_, ?_, ?_, ?_⟩)
      · rw [pj_u_n (by omega)]; exact l1
      · rw [pj_u_n (by omega)]; exact l2
      · rw [pj_u_n (by omega)]; exact l3
      · rw [pj_u_e]
        have e9 : (if nI (G.pur k + W.cpy c) < 9999 then nI (G.pur k + W.cpy c) else 9999) = nI (if G.pur k + W.cpy c < 9999 then G.pur k + W.cpy c else 9999) := mn_i (b := 9999) (by omega) (by decide)
        rw [e9]
        exact congrArg nI upd1_e.symm
      · rw [pj_u_n (by omega)]; exact l5
/-- Course.warmest, of those on their pegs -/
theorem s6 (hh : 4 ≤ h) {s g : Nat} (ha : a ∈ [35, 43, 51, 252]) (hW : CW W 5 I) (hV : WV W) (hL : LC W a L I) (hLV : LV W L) (b1 : s ≤ 9999) (b2 : g ≤ 9999) (q : ∀ I', pj_fr cS I I' → Q (some (.int (wo (bst W L s g)))) (zc n, I', J)) : pj_D h 6 [.ref 34, .ref a, .int (nI s), .int (nI g), .int (nI (bs (peg W L) W.nc))] (zc n, I, J) Q := by
  have hb := ha_b ha
  have h8 := hW.1.1
  have hbs : bs (peg W L) W.nc < 2 ^ 31 := Nat.lt_of_lt_of_le (bs_lt _ _) (Nat.pow_le_pow_right (by decide) (by omega))
  have hbb : ∀ c, GB (bsN W L s g c).2 ∨ W.nc < c := by
    intro c
    induction c with
    | zero => exact Or.inl ⟨by show (-1000000 : Int) ≤ 0; decide, by show (0 : Int) ≤ 1000000; decide⟩
    | succ c ih =>
      rcases Nat.lt_or_ge W.nc (c + 1) with z | z
      · exact Or.inr z
      · left
        unfold bsN
        cases e : (peg W L c && decide ((bsN W L s g c).2 < wm W s g L.yr c (L.lin c))) with
        | true => exact wm_b hV (by omega) b1 b2 (by have := hLV.1; omega) (by have := hLV.2.1 c (by omega); omega)
        | false => exact ih.resolve_right (by omega)
  refine pj_ent (g := 3) hh (t := mt_6) rfl rfl (g6_0 (pj_D_le 3) ha I J _ _ _ ?_)
  suffices loop : ∀ m k I', m + k = W.nc → pj_fr cS I I' → pj_R (pj_D 3) ta mc_6 false Q 9 [some (.ref 34), some (.ref a), some (.int (nI s)), some (.int (nI g)), some (.int (nI (bs (peg W L) W.nc))), some (.int (wo (bsN W L s g k).1)), some (.int (iI (bsN W L s g k).2)), some (.int (nI k)), none] [] (zc n) I' J 0 0 from loop W.nc 0 I (by omega) pj_fr_rf
  intro m
  induction m with
  | zero =>
    intro k I' hk hf
    obtain rfl : k = W.nc := by omega
    refine g6_9 (pj_D_le 3) ha I' J _ _ _ _ _ _ ?_
    have hW' := CW_y hb.1 (cS_yS hf) hW
    rw [hW'.1.2.2.1]
    exact br_t (nI_le (Nat.le_refl _) (by omega)) (q I' hf)
  | succ m ih =>
    intro k I' hk hf
    have hkc : k < W.nc := by omega
    have hW' := CW_y hb.1 (cS_yS hf) hW
    have L2 := LC_c hb.1 hf hL
    have gk := (hbb k).resolve_right (by omega)
    have i8 := pk_in (x := nI k) k 8 (by omega)
    refine g6_9 (pj_D_le 3) ha I' J _ _ _ _ _ _ ?_
    rw [hW'.1.2.2.1, nb_bit hbs (by omega), bs_bit, decide_eq_true hkc, Bool.true_and, nI_clamp (n := k) (by omega), L2.1, (L2.2.1 k hkc).1, nI_1]
    refine br_f (nI_ge hkc (by omega)) ?_
    have ih := ih (k + 1)
    have eg : bsN W L s g (k + 1) = match peg W L k && decide ((bsN W L s g k).2 < wm W s g L.yr k (L.lin k)) with
      | true => (some k, wm W s g L.yr k (L.lin k))
      | false => bsN W L s g k := rfl
    rw [eg] at ih
    cases e : peg W L k with
    | false =>
      rw [e] at ih
      exact ⟨fun z => absurd rfl z, fun _ => ih I' (by omega) hf⟩
    | true =>
      rw [e, Bool.true_and] at ih
      refine ⟨fun _ => ⟨i8, ?_⟩, fun z => absurd z (by decide)⟩
      have y9 := hLV.1
      have l9 := hLV.2.1 k hkc
      have gw := wm_b (l := L.lin k) (y := L.yr) hV hkc b1 b2 (by omega) (by omega)
      refine s105 (Nat.le_refl 3) hW' hV hkc b1 b2 (by omega) (by omega) (fun I2 hf2 => kI_i ?_)
      rw [iI_le gw.i gk.i]
      by_cases d : (bsN W L s g k).2 < wm W s g L.yr k (L.lin k)
      · rw [decide_eq_true d] at ih
        exact ⟨fun z => absurd d (by omega), fun _ => ih I2 (by omega) (pj_fr_tr hf hf2)⟩
      · rw [decide_eq_false d] at ih
        exact ⟨fun _ => ih I2 (by omega) (pj_fr_tr hf hf2), fun z => absurd (by omega) z⟩
end PYc
