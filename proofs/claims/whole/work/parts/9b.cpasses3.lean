/-! passes: the class, deeper -/
section PPu
variable {n : Nat} {J : Nat → Nat → Int64} {A : Ab}
theorem wel_t {W : Wk} {L : Ly} {a b : Nat} (h : wel W L a b = true) : L.the a = true ∧ L.the b = true := by
  unfold wel at h
  simp only [Bool.and_eq_true] at h
  exact ⟨h.1.1.1.1, h.1.1.1.2⟩
theorem wor_ne {W : Wk} {L : Ly} {a b : Nat} (hV : LV W L) (ha : a < W.nm) (hb : b < W.nm) (hab : a ≠ b) : L.wor a = none ∨ L.wor a ≠ L.wor b := by
  cases e : L.wor a with
  | none => exact Or.inl rfl
  | some c => exact Or.inr (fun z => hab (hV.2.2.2.2 a b c ha hb e z.symm))
/-- Passing.after -/
theorem s25 {m c a b d e g : Nat} {Q : pj_K} {I : Nat → Nat → Int32} {L : Ly} {v : Int32} (hA : AV A) (hg : 2 ≤ g) (hL : LC A.W 240 L I) (hV : LV A.W L) (ha : a < A.W.nm) (hb : b < A.W.nm) (hab : a ≠ b)
    (r21 : ∀ I1 (Q1 : pj_K), pj_fr pC I I1 → LC A.W 240 (L.chg a b) I1 → (∀ j, I1 250 j = I 250 j) → (∀ c j, c = 248 ∨ c = 249 → I1 c j = I c j) → (∀ I2, pj_fr pC I I2 → LC A.W 240 (L.chg a b) I2 → KN A.W A.L I2 → (∀ i, i < d + 1 → I2 250 i = I 250 i) → ∀ w, w &&& 1 = w → (∀ I3, pj_fr pC I I3 → LC A.W 240 L I3 → KN A.W A.L I3 → (∀ i, I3 250 i = I2 250 i) → Q (some (.int w)) (zc n, I3, J)) → Q1 (some (.int w)) (zc n, I2, J)) → pj_D g 21 [.ref 239, .int (nI m), .int (nI c), .int (nI (d + 1)), .int (nI e)] (zc n, I1, J) Q1) : pj_D (g + 1) 25 [.ref 239, .int (nI a), .int (nI b), .int (nI m), .int (nI c), .int (nI d), .int (nI e)] (zc n, I, J) Q := by
  have h7 := hA.2.2.1
  have h8 := hA.2.1
  have wa : ∀ c, L.wor a = some c → c < A.W.nc := fun c e => LV_c hV ha e
  have wb : ∀ c, L.wor b = some c → c < A.W.nc := fun c e => LV_c hV hb e
  have hne := wor_ne hV ha hb hab
  refine pj_ent (g := g) (Nat.le_refl _) (t := mt_25) rfl rfl (v25_0 (pj_D_le g) I J _ _ _ _ _ _ ⟨pk_in a 7 (by omega), pk_in b 7 (by omega), ?_⟩)
  rw [nI_clamp (n := a) (by omega), nI_clamp (n := b) (by omega), (hL.2.2 a ha).2.2.1, (hL.2.2 b hb).2.2.1]
  refine s26 (by omega) h8 hL wa (kI_i (v25_30 (pj_D_le g) I J _ _ _ _ _ _ _ _ _ (s26 (by omega) h8 hL wb (kI_i ?_))))
  refine s79 hg (by decide) h8 h7 hL hV.2.1 (fun k x hk e => LV_c hV hk e) ha hb (fun I1 l1 f1 => kV_i ?_)
  rw [nI_1 d]
  refine r21 I1 _ (pj_fr_w f1 (fun x j hx => by
      unfold pC at hx
      simp only [Bool.or_eq_false_iff] at hx
      rw [hx.1.1.2, hx.1.1.1.2]; rfl)) l1 (fun j => f1 _ _ rfl) (fun x j hx => by rcases hx with rfl | rfl <;> exact f1 _ _ rfl) (fun I2 f2 l2 k2 p2 w hw q2 => kI_i ?_)
  refine v25_62 (pj_D_le g) I2 J _ _ _ _ _ _ _ ?_
  refine s27 (by omega) h8 (by omega) wa (fun I3 f3 e3 x3 => kV_i (s27 (by omega) h8 (by omega) wb (fun I4 f4 e4 x4 => kV_i ⟨hw, q2 I4 ?_ ?_ ?_ ?_⟩)))
  · intro x j hx
    have t := hx
    unfold pC at t
    simp only [Bool.or_eq_false_iff, beq_eq_false_iff_ne] at t
    rw [f4 x j (Or.inl t.1.1.2) (Or.inl t.1.1.1.2), f3 x j (Or.inl t.1.1.2) (Or.inl t.1.1.1.2)]
    exact f2 x j hx
  · have o : ∀ x j, x ≠ 245 → x ≠ 241 → I4 x j = I2 x j := fun x j h1 h2 => (f4 x j (Or.inl h1) (Or.inl h2)).trans (f3 x j (Or.inl h1) (Or.inl h2))
    refine ⟨(o _ _ (by decide) (by decide)).trans l2.1, fun k hk => ⟨?_, (o _ _ (by decide) (by decide)).trans (l2.2.1 k hk).2⟩, fun k hk => ⟨(o _ _ (by decide) (by decide)).trans (l2.2.2 k hk).1, (o _ _ (by decide) (by decide)).trans (l2.2.2 k hk).2.1, ?_, (o _ _ (by decide) (by decide)).trans (l2.2.2 k hk).2.2.2.1, (o _ _ (by decide) (by decide)).trans (l2.2.2 k hk).2.2.2.2⟩⟩
    · show I4 241 k = nI (L.lin k)
      by_cases c2 : L.wor b = some k
      · rw [x4 k c2, c2]; rfl
      · rw [f4 241 k (Or.inl (by decide)) (Or.inr c2)]
        by_cases c1 : L.wor a = some k
        · rw [x3 k c1, c1]; rfl
        · rw [f3 241 k (Or.inl (by decide)) (Or.inr c1)]
          have := (l2.2.1 k hk).1
          rw [chg_lin hne, if_neg (fun z => z.elim c1 c2)] at this
          exact this
    · show I4 245 k = wo (L.wor k)
      by_cases c2 : k = b
      · rw [c2]; exact e4
      · rw [f4 245 k (Or.inr c2) (Or.inl (by decide))]
        by_cases c1 : k = a
        · rw [c1]; exact e3
        · rw [f3 245 k (Or.inr c1) (Or.inl (by decide))]
          have := (l2.2.2 k hk).2.2.1
          rw [chg_wor, if_neg c2, if_neg c1] at this
          exact this
  · exact KN_fr (fun x j hx => (f4 x j (Or.inl (by omega)) (Or.inl (by omega))).trans (f3 x j (Or.inl (by omega)) (Or.inl (by omega)))) k2
  · intro i
    exact (f4 _ i (Or.inl (by decide)) (Or.inl (by decide))).trans (f3 _ i (Or.inl (by decide)) (Or.inl (by decide)))
/-- Passing.reaches -/
theorem s21 {m c : Nat} (hA : AV A) (hm : m < A.W.nm) (hc : c < A.W.nc) : ∀ (k : Nat) {h : Nat} {Q : pj_K} {I : Nat → Nat → Int32} {L : Ly} {d : Nat}, 6 + 2 * k ≤ h → d + (k + 1) ≤ 3 → CW A.W 5 I → LC A.W 240 L I → sameM A.L L → LV A.W L → KN A.W A.L I → seqF A.W m c k L = none →
    (∀ I', pj_fr pC I I' → LC A.W 240 L I' → KN A.W A.L I' → (∀ i, i < d → I' 250 i = I 250 i) → seqF A.W m c (k + 1) L = none → Q (some (.int 0)) (zc n, I', J)) →
    (∀ I' x, pj_fr pC I I' → LC A.W 240 L I' → KN A.W A.L I' → (∀ i, i < d → I' 250 i = I 250 i) → seqF A.W m c (k + 1) L = some x → (∀ i, i < k + 1 → I' 250 (d + i) = nI (x.getD i 0)) → Q (some (.int 1)) (zc n, I', J)) →
    pj_D h 21 [.ref 239, .int (nI m), .int (nI c), .int (nI d), .int (nI (d + (k + 1)))] (zc n, I, J) Q := by
  intro k
  induction k with
  | zero => intro h Q I L d hh hd hW hL hM hV hK hn q0 q1; exact s21a hA hm hc hh hd hW hL hM hV hK hn q0 q1
  | succ k IH =>
    intro h Q I L d hh hd hW hL hM hV hK hn q0 q1
    have h7 := hA.2.2.1
    have h8 := hA.2.1
    refine pj_ent (g := 6 + 2 * k + 1) hh (t := mt_21) rfl rfl (v21_0 (pj_D_le _) I J _ _ _ _ ?_)
    refine br_f (nI_ge (by omega) (by omega)) (br_t (nI_lt (b := 3) (by omega) (by decide)) ⟨fun _ => ?_, fun z => ?_⟩)
    rotate_left
    · have : nI d = nI (d + (k + 1 + 1) - 1) := z.trans (su_1 (by omega))
      exact absurd ((nI_eq (by omega) (by omega)).mp this) (by omega)
    refine lp21 (A := A) (k := k + 1) (L := L) (m := m) (c := c) (P := fun I' => pj_fr pC I I' ∧ LC A.W 240 L I' ∧ KN A.W A.L I' ∧ ∀ i, i < d → I' 250 i = I 250 i) h7 (fun I' h => (CW_p h.1 hW).1.2.2.2.1) ⟨pj_fr_rf, hL, hK, fun _ _ => rfl⟩ (fun I' h e => q0 I' h.1 h.2.1 h.2.2.1 h.2.2.2 e) ?_
    intro a b I' hab hbm h0 nx fin
    obtain ⟨hf, l1, k1, p1⟩ := h0
    have ha : a < A.W.nm := by omega
    rw [sqf_e hab hbm h7] at nx fin
    refine v21_49 (pj_D_le _) I' J _ _ _ _ _ _ _ ?_
    rw [(CW_p hf hW).1.2.2.2.1, nI_1 b]
    refine br_f (nI_ge hbm (by omega)) ⟨fun _ => s23 (by omega) hA (CW_p hf hW) l1 hM hV k1 ha hbm (by omega) (fun I2 f2 k2 => kI_i ?_), fun z => absurd rfl z⟩
    have f2p := pj_fr_tr hf (nC_p f2)
    have o2 : ∀ i, I2 250 i = I' 250 i := fun i => f2 _ _ rfl
    cases ew : wel A.W L a b with
    | false =>
      rw [ew] at nx
      exact ⟨fun z => absurd rfl z, fun _ => nx rfl I2 ⟨f2p, LC_n f2 l1, k2, fun i hi => (o2 i).trans (p1 i hi)⟩⟩
    | true =>
      rw [ew] at fin nx
      simp only at fin nx
      refine ⟨fun _ => ⟨pk_in d 3 (by omega), fun z => absurd rfl z, fun _ => ?_⟩, fun z => absurd z (by decide)⟩
      have e8 : (8 : Int32) * nI a + nI b = nI (8 * a + b) := li_8 a b
      rw [e8, nI_clamp (n := d) (by omega)]
      have tt := wel_t ew
      have hn1 : seqF A.W m c k (L.chg a b) = none := sub_none h7 hab hbm ew hn
      have hV1 := chg_LV hV ha hbm tt.1 tt.2 (by omega)
      have f3 : pj_fr pC I (pj_u I2 250 d (nI (8 * a + b))) := pj_fr_u f2p rfl
      have l3 : LC A.W 240 L (pj_u I2 250 d (nI (8 * a + b))) := LC_fr (fun x j h1 h2 => pj_u_n (by omega)) (LC_n f2 l1)
      have k3 : KN A.W A.L (pj_u I2 250 d (nI (8 * a + b))) := KN_u (by decide) (by decide) k2
      have p3 : ∀ i, i < d → pj_u I2 250 d (nI (8 * a + b)) 250 i = I 250 i := fun i hi => (pj_u_j (by omega)).trans ((o2 i).trans (p1 i hi))
      have t3 : pj_u I2 250 d (nI (8 * a + b)) 250 d = nI (8 * a + b) := pj_u_e
      generalize pj_u I2 250 d (nI (8 * a + b)) = I3 at f3 l3 k3 p3 t3
      refine s25 (v := 0) hA (by omega) l3 hV ha hbm (by omega) (fun I4 Q1 f4 l4 p4 kf4 q4 => ?_)
      rw [show d + (k + 1 + 1) = d + 1 + (k + 1) by omega]
      refine IH (Nat.le_refl _) (by omega) (CW_p (pj_fr_tr f3 f4) hW) l4 (sameM_c hM) hV1 (KN_fr kf4 k3) hn1 (fun I5 f5 l5 k5 p5 e5 => ?_) (fun I5 x f5 l5 k5 p5 e5 x5 => ?_)
      · refine q4 I5 (pj_fr_tr f4 f5) l5 k5 (fun i hi => (p5 i hi).trans (p4 i)) 0 (by decide) (fun I6 f6 l6 k6 p6 => kI_i ⟨fun _ => ?_, fun z => absurd rfl z⟩)
        rw [e5] at nx
        exact nx rfl I6 ⟨pj_fr_tr f3 f6, l6, k6, fun i hi => ((p6 i).trans ((p5 i (by omega)).trans (p4 i))).trans (p3 i hi)⟩
      · refine q4 I5 (pj_fr_tr f4 f5) l5 k5 (fun i hi => (p5 i hi).trans (p4 i)) 1 (by decide) (fun I6 f6 l6 k6 p6 => kI_i ⟨fun z => absurd z (by decide), fun _ => ?_⟩)
        rw [e5] at fin
        refine q1 I6 _ (pj_fr_tr f3 f6) l6 k6 (fun i hi => ((p6 i).trans ((p5 i (by omega)).trans (p4 i))).trans (p3 i hi)) (fin _ rfl) (fun i hi => ?_)
        rcases Nat.eq_zero_or_pos i with rfl | hp
        · show I6 250 d = nI (8 * a + b)
          exact ((p6 d).trans ((p5 d (by omega)).trans (p4 d))).trans t3
        · obtain ⟨j, rfl⟩ : ∃ j, i = j + 1 := ⟨i - 1, by omega⟩
          rw [p6, show d + (j + 1) = d + 1 + j by omega, x5 j (by omega)]
          rfl
end PPu
