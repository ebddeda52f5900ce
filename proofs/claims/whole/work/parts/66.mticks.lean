/-! a year: the reference, whole -/
section PYt
variable {n h : Nat} {Q : pj_K} {I : Nat → Nat → Int32} {J : Nat → Nat → Int64} {W : Wk} {L : Ly} {B v : Nat}
/-- PegCoatsModel.isOnPeg, by the layer -/
theorem s208p (hh : 2 ≤ h) {c : Nat} (hv : v < 22) (hB : I 276 13 = nI B) (hW : WM W B I) (hL : LM W v L I) (hLV : LV W L) (hc : c < W.nc) (q : Q (some (.int (bi (peg W L c)))) (zc n, I, J)) : pj_D h 208 [.ref 276, .int (nI v), .int (nI c)] (zc n, I, J) Q := by
  obtain ⟨w1, w2, w0, w3, w4, w5⟩ := hW
  obtain ⟨S, g2, g3, g4⟩ := hL.2.1
  refine s208 hh hv hB w0 w4 w2 g2 (by omega) (by omega) ?_
  rw [g4 c hc, wr_M w1 hL hLV (by omega)]
  exact q
/-- PegCoatsModel.warmest -/
theorem s229 (hh : 5 ≤ h) {s g : Nat} (hv : v < 22) (hB : I 276 13 = nI B) (hW : MW W B I J) (hV : WV W) (hL : LM W v L I) (hLV : LV W L) (b1 : s ≤ 9999) (b2 : g ≤ 9999) (q : ∀ I' J', pj_fr aS I I' → pj_fr sS J J' → Q (some (.int (wo (bst W L s g)))) (zc n, I', J')) : pj_D h 229 [.ref 276, .int (nI v), .int (nI s), .int (nI g)] (zc n, I, J) Q := by
  have h8 := hW.1.1
  have hB2 := hW.1.2.2.1
  have hbb : ∀ c, GB (bsN W L s g c).2 ∨ W.nc < c := by
    intro c
    induction c with
    | zero => exact Or.inl ⟨by show (-1000000 : Int) ≤ 0; decide, by show (0 : Int) ≤ 1000000; decide⟩
    | succ c ih =>
      rcases Nat.lt_or_ge W.nc (c + 1) with z | z
      · exact Or.inr z
      · left
        unfold bsN
        cases e : (peg W L c && decide ((bsN W L s g c).2 < wm W s g L.yr c (L.lin c))) with
        | true => exact wm_b hV (by omega) b1 b2 (by have := hLV.1; omega) (by have := hLV.2.1 c (by omega); omega)
        | false => exact ih.resolve_right (by omega)
  refine pj_ent (g := 4) hh (t := mt_229) rfl rfl (v229_0 (pj_D_le 4) I J _ _ _ ?_)
  suffices loop : ∀ m k I' J', m + k = W.nc → pj_fr aS I I' → pj_fr sS J J' → pj_R (pj_D 4) ta mc_229 false Q 9 [some (.ref 276), some (.int (nI v)), some (.int (nI s)), some (.int (nI g)), some (.int (wo (bsN W L s g k).1)), some (.long (iL (bsN W L s g k).2)), none, some (.int (nI k)), none, none] [] (zc n) I' J' 0 0 from loop W.nc 0 I J (by omega) pj_fr_rf pj_fr_rf
  intro m
  induction m with
  | zero =>
    intro k I' J' hk hf hj
    obtain rfl : k = W.nc := by omega
    have hW' := MW_t (v := v) (tS_a hf) hj hW
    refine v229_9 (pj_D_le 4) I' J' _ _ _ _ _ _ ?_
    rw [(hf 276 13 rfl).trans hB, nI_clamp (n := B) (by omega), hW'.1.2.2.2.1]
    exact ⟨vp_in_nI hB2 (by decide), br_t (nI_le (Nat.le_refl _) (by omega)) (q I' J' hf hj)⟩
  | succ m ih =>
    intro k I' J' hk hf hj
    have hkc : k < W.nc := by omega
    have hW' := MW_t (v := v) (tS_a hf) hj hW
    have hB' := (hf 276 13 rfl).trans hB
    have L2 := LM_a hf hL
    have gk := (hbb k).resolve_right (by omega)
    refine v229_9 (pj_D_le 4) I' J' _ _ _ _ _ _ ?_
    rw [hB', nI_clamp (n := B) (by omega), hW'.1.2.2.2.1]
    refine ⟨vp_in_nI hB2 (by decide), br_f (nI_ge hkc (by omega)) (s208p (by decide) hv hB' hW'.1 L2 hLV hkc (kI_i ?_))⟩
    rw [nI_1]
    have ih := ih (k + 1)
    have eg : bsN W L s g (k + 1) = match peg W L k && decide ((bsN W L s g k).2 < wm W s g L.yr k (L.lin k)) with
      | true => (some k, wm W s g L.yr k (L.lin k))
      | false => bsN W L s g k := rfl
    rw [eg] at ih
    cases e : peg W L k with
    | false =>
      rw [e] at ih
      exact ⟨fun z => absurd rfl z, fun _ => ih I' J' (by omega) hf hj⟩
    | true =>
      rw [e, Bool.true_and] at ih
      refine ⟨fun _ => ?_, fun z => absurd z (by decide)⟩
      have y9 := hLV.1
      have l9 := hLV.2.1 k hkc
      have gw := wm_b (l := L.lin k) (y := L.yr) hV hkc b1 b2 (by omega) (by omega)
      refine s217 (Nat.le_refl 4) hv hB' hW' hV L2 hLV hkc b1 b2 (fun I2 J2 hf2 hj2 => kL_i ?_)
      rw [lg_cmp_gt, iL_lt gk.l gw.l]
      by_cases d : (bsN W L s g k).2 < wm W s g L.yr k (L.lin k)
      · rw [decide_eq_true d] at ih
        exact ⟨fun _ => ih I2 J2 (by omega) (pj_fr_tr hf hf2) (pj_fr_tr hj hj2), fun z => absurd d z⟩
      · rw [decide_eq_false d] at ih
        exact ⟨fun z => absurd z d, fun _ => ih I2 J2 (by omega) (pj_fr_tr hf hf2) (pj_fr_tr hj hj2)⟩
theorem li_340 (v k : Nat) : (3 : Int32) * ((40 : Int32) * nI v + nI k) = nI (120 * v + 3 * k) := by
  show nI 3 * (nI 40 * nI v + nI k) = _
  rw [pk_mul, nI_add, pk_mul]
  exact congrArg nI (by omega)
theorem kS_8 {j : Nat} (h1 : 120 * v ≤ j) (h2 : j < 120 * v + 120) : kS v 308 j = true := rg_t h1 h2
theorem kS_7 : kS v 307 v = true := by
  unfold kS
  simp
theorem tld_e {m : Nat} (h : 40 ≤ m) : tld m = 40 := by
  unfold tld
  split <;> omega
theorem tld_s {m : Nat} (h : m ≤ 40) : tld m = m := by
  unfold tld
  split <;> omega
set_option maxRecDepth 8000 in
/-- PegCoatsModel.writesDown -/
theorem s231 (hh : 1 ≤ h) {m y p w : Nat} {f : Nat → Nat × Nat × Nat} (hv : v < 22) (hK : KM v m f I) (hy : I 299 v = nI y) (q : ∀ I', pj_fr (kS v) I I' → KM v (m + 1) (upd1 f m (y, p, w)) I' → Q none (zc n, I', J)) : pj_D h 231 [.ref 276, .int (nI v), .int (nI p), .int (nI w)] (zc n, I, J) Q := by
  refine pj_ent (g := 0) hh (t := mt_231) rfl rfl (v231_0 (pj_D_le 0) I J _ _ _ ⟨pk_in v 22 hv, ?_⟩)
  obtain ⟨k1, k2⟩ := hK
  have iv := pk_in (x := nI v) v 22 hv
  have hn2 : ∀ (F : Nat → Nat → Int32) (x : Int32) (j : Nat), pj_u F 307 v x 308 j = F 308 j := fun F x j => pj_u_n (by decide)
  have tl := tld_le m
  rw [nI_clamp (n := v) (by omega), k1, hy]
  rcases Nat.lt_or_ge m 40 with c | c
  · have et : tld m = m := tld_s (by omega)
    have et2 : tld (m + 1) = m + 1 := tld_s (by omega)
    rw [et] at k1 k2 ⊢
    have e1 : nI (120 * v + 3 * m) + 1 = nI (120 * v + 3 * m + 1) := nI_1 _
    have e2 : nI (120 * v + 3 * m) + 2 = nI (120 * v + 3 * m + 2) := nI_add _ 2
    rw [li_340, e1, e2, nI_clamp (n := 120 * v + 3 * m) (by omega), nI_clamp (n := 120 * v + 3 * m + 1) (by omega), nI_clamp (n := 120 * v + 3 * m + 2) (by omega), nI_1]
    refine ⟨fun _ => ⟨iv, iv, pk_in (120 * v + 3 * m) 2640 (by omega), pk_in (120 * v + 3 * m + 1) 2640 (by omega), pk_in (120 * v + 3 * m + 2) 2640 (by omega), iv, iv, ?_⟩, fun z => ?_⟩
    · refine q _ (pj_fr_u (pj_fr_u (pj_fr_u (pj_fr_u pj_fr_rf (kS_8 (by omega) (by omega))) (kS_8 (by omega) (by omega))) (kS_8 (by omega) (by omega))) kS_7) ⟨?_, fun i hi => ?_⟩
      · rw [pj_u_e, et2]
      · rw [et2] at hi ⊢
        rw [show m + 1 - (m + 1) + i = i by omega]
        simp only [hn2]
        by_cases d : i = m
        · subst d
          rw [upd1_e]
          refine ⟨?_, ?_, pj_u_e⟩
          · rw [pj_u_j (by omega), pj_u_j (by omega), pj_u_e]
          · rw [pj_u_j (by omega), pj_u_e]
        · rw [upd1_n d]
          have := k2 i (by omega)
          rw [show m - m + i = i by omega] at this
          refine ⟨?_, ?_, ?_⟩
          · rw [pj_u_j (by omega), pj_u_j (by omega), pj_u_j (by omega)]; exact this.1
          · rw [pj_u_j (by omega), pj_u_j (by omega), pj_u_j (by omega)]; exact this.2.1
          · rw [pj_u_j (by omega), pj_u_j (by omega), pj_u_j (by omega)]; exact this.2.2
    · have := (nI_eq (a := m) (b := 40) (by omega) (by decide)).mp z
      omega
  · have et : tld m = 40 := tld_e c
    have et2 : tld (m + 1) = 40 := tld_e (by omega)
    rw [et] at k1 k2 ⊢
    refine ⟨fun z => absurd rfl z, fun _ => ?_⟩
    have e0 : (120 : Int32) * nI v = nI (120 * v) := by
      show nI 120 * nI v = _
      rw [pk_mul]
    rw [e0]
    suffices loop : ∀ r k I', r + k = 117 → pj_fr (kS v) I I' → I' 307 v = nI 40 → (∀ j, j < 120 → I' 308 (120 * v + j) = if j < k then I 308 (120 * v + j + 3) else I 308 (120 * v + j)) → pj_R (pj_D 0) ta mc_231 false Q 17 [some (.ref 276), some (.int (nI v)), some (.int (nI p)), some (.int (nI w)), some (.int (nI (120 * v + k)))] [] (zc n) I' J 0 0 from
      loop 117 0 I (by omega) pj_fr_rf k1 (fun j _ => by rw [if_neg (by omega)])
    intro r
    induction r with
    | zero =>
      intro k I' hk hf h7 h8
      obtain rfl : k = 117 := by omega
      refine v231_17 (pj_D_le 0) I' J _ _ _ _ ?_
      have ey : I' 299 v = nI y := (hf 299 v rfl).trans hy
      have eb : (120 : Int32) * nI v + 120 - 3 = nI (120 * v + 117) := by
        show nI 120 * nI v + nI 120 - nI 3 = _
        rw [pk_mul, nI_add, pk_sub (by omega)]
        exact congrArg nI (by omega)
      have e39 : nI 40 - 1 = nI 39 := nI_pred 39
      rw [eb, nI_clamp (n := v) (by omega), pj_u_e, h7, e39]
      have e1 : nI (120 * v + 3 * 39) + 1 = nI (120 * v + 3 * 39 + 1) := nI_1 _
      have e2 : nI (120 * v + 3 * 39) + 2 = nI (120 * v + 3 * 39 + 2) := nI_add _ 2
      rw [li_340, e1, e2, nI_clamp (n := 120 * v + 3 * 39) (by omega), nI_clamp (n := 120 * v + 3 * 39 + 1) (by omega), nI_clamp (n := 120 * v + 3 * 39 + 2) (by omega), nI_1, ey]
      refine br_t (nI_le (by omega) (by omega)) ⟨iv, iv, iv, iv, pk_in (120 * v + 3 * 39) 2640 (by omega), pk_in (120 * v + 3 * 39 + 1) 2640 (by omega), pk_in (120 * v + 3 * 39 + 2) 2640 (by omega), iv, iv, ?_⟩
      refine q _ (pj_fr_u (pj_fr_u (pj_fr_u (pj_fr_u (pj_fr_u hf kS_7) (kS_8 (by omega) (by omega))) (kS_8 (by omega) (by omega))) (kS_8 (by omega) (by omega))) kS_7) ⟨?_, fun i hi => ?_⟩
      · rw [pj_u_e, et2]
      · rw [et2] at hi ⊢
        have hn : ∀ j, pj_u I' 307 v (nI 39) 308 j = I' 308 j := fun j => pj_u_n (by decide)
        simp only [hn2]
        by_cases d : i = 39
        · subst d
          rw [show m + 1 - 40 + 39 = m by omega, upd1_e]
          refine ⟨?_, ?_, pj_u_e⟩
          · rw [pj_u_j (by omega), pj_u_j (by omega), pj_u_e]
          · rw [pj_u_j (by omega), pj_u_e]
        · rw [upd1_n (by omega)]
          have t := k2 (i + 1) (by omega)
          rw [show m - 40 + (i + 1) = m + 1 - 40 + i by omega] at t
          refine ⟨?_, ?_, ?_⟩
          · rw [pj_u_j (by omega), pj_u_j (by omega), pj_u_j (by omega), hn, h8 (3 * i) (by omega), if_pos (by omega), ← t.1]
            exact congrArg (I 308) (by omega)
          · rw [pj_u_j (by omega), pj_u_j (by omega), pj_u_j (by omega), hn, Nat.add_assoc, h8 (3 * i + 1) (by omega), if_pos (by omega), ← t.2.1]
            exact congrArg (I 308) (by omega)
          · rw [pj_u_j (by omega), pj_u_j (by omega), pj_u_j (by omega), hn, Nat.add_assoc, h8 (3 * i + 2) (by omega), if_pos (by omega), ← t.2.2]
            exact congrArg (I 308) (by omega)
    | succ r ih =>
      intro k I' hk hf h7 h8
      refine v231_17 (pj_D_le 0) I' J _ _ _ _ ?_
      have eb : (120 : Int32) * nI v + 120 - 3 = nI (120 * v + 117) := by
        show nI 120 * nI v + nI 120 - nI 3 = _
        rw [pk_mul, nI_add, pk_sub (by omega)]
        exact congrArg nI (by omega)
      have e3 : nI (120 * v + k) + 3 = nI (120 * v + k + 3) := nI_add _ 3
      rw [eb, e3, nI_1]
      refine br_f (nI_ge (by omega) (by omega)) ⟨pk_in (120 * v + k + 3) 2640 (by omega), pk_in (120 * v + k) 2640 (by omega), ?_⟩
      rw [nI_clamp (n := 120 * v + k + 3) (by omega), nI_clamp (n := 120 * v + k) (by omega)]
      refine ih (k + 1) _ (by omega) (pj_fr_u hf (kS_8 (by omega) (by omega))) ((pj_u_n (by decide)).trans h7) (fun j hj => ?_)
      by_cases d : j = k
      · subst d
        rw [pj_u_e, if_pos (by omega), Nat.add_assoc, h8 (j + 3) (by omega), if_neg (by omega)]
      · rw [pj_u_j (by omega), h8 j hj]
        by_cases d2 : j < k
        · rw [if_pos d2, if_pos (by omega)]
        · rw [if_neg d2, if_neg (by omega)]
end PYt
