/-! copies of layers -/
abbrev cpP : List (Nat × Nat) := [(35, 43), (35, 61), (35, 69), (35, 77), (35, 85), (35, 93), (35, 101), (35, 109), (35, 117), (35, 125), (35, 133), (35, 141), (35, 149), (35, 157), (35, 165), (35, 173), (35, 181), (35, 189), (35, 197), (35, 205), (35, 213), (43, 35), (43, 51), (51, 35), (61, 35), (69, 35), (77, 35), (85, 35), (93, 35), (101, 35), (109, 35), (117, 35), (125, 35), (133, 35), (141, 35), (149, 35), (157, 35), (165, 35), (173, 35), (181, 35), (189, 35), (197, 35), (205, 35), (213, 35), (240, 35), (252, 35)]
theorem cpP_far : ∀ q ∈ cpP, q.1 + 8 ≤ q.2 ∨ q.2 + 8 ≤ q.1 := by decide
theorem cp_n {I : Nat → Nat → Int32} {s d sp dp m c j : Nat} (h : c ≠ d) : pj_cp I s d sp dp m c j = I c j := by
  show va_up I d _ c j = _
  unfold va_up
  rw [if_neg h]
theorem cp_in {I : Nat → Nat → Int32} {s d m j : Nat} (h : j < m) : pj_cp I s d 0 0 m d j = I s j := by
  show va_up I d _ d j = _
  unfold va_up
  rw [if_pos rfl, pk_cpy_in (Nat.zero_le _) (by omega)]
  congr 1
  omega
/-- what a copy of a layer may change -/
def lS (a : Nat) : Nat → Nat → Bool := fun c j => Nat.ble (a + 1) c && Nat.ble c (a + 7) || c == a && (j == 7 || j == 8)
theorem lS_f {a c j : Nat} (h : lS a c j = false) : (c ≤ a ∨ a + 8 ≤ c) ∧ (c = a → j ≠ 7 ∧ j ≠ 8) := by
  unfold lS at h
  simp only [Bool.or_eq_false_iff, Bool.and_eq_false_iff] at h
  refine ⟨?_, fun e => ?_⟩
  · rcases h.1 with q | q
    · left
      rcases Nat.lt_or_ge a c with z | z
      · rw [Nat.ble_eq_true_of_le z] at q; cases q
      · exact z
    · right
      rcases Nat.lt_or_ge c (a + 8) with z | z
      · rw [Nat.ble_eq_true_of_le (show c ≤ a + 7 by omega)] at q; cases q
      · exact z
  · rcases h.2 with q | q
    · rw [e] at q
      simp at q
    · simp only [beq_eq_false_iff_ne] at q
      exact q
def lcp (a b : Nat) (I I' : Nat → Nat → Int32) : Prop := (∀ k, k < 8 → I' (a + 1) k = I (b + 1) k) ∧ (∀ k, k < 8 → I' (a + 2) k = I (b + 2) k &&& 1) ∧ (∀ k, k < 7 → I' (a + 3) k = I (b + 3) k) ∧ (∀ k, k < 7 → I' (a + 4) k = I (b + 4) k) ∧ (∀ k, k < 7 → I' (a + 5) k = I (b + 5) k) ∧ (∀ k, k < 7 → I' (a + 6) k = I (b + 6) k) ∧ (∀ k, k < 7 → I' (a + 7) k = I (b + 7) k &&& 1) ∧ I' a 7 = I b 7 ∧ I' a 8 = I b 8 ∧ pj_fr (lS a) I I'
section PCp
variable {n h : Nat} {Q : pj_K} {I : Nat → Nat → Int32} {J : Nat → Nat → Int64}
/-- State.copyFrom -/
theorem s77 (hh : 1 ≤ h) {a b : Nat} (ha : (a, b) ∈ cpP) (q : ∀ I', lcp a b I I' → Q none (zc n, I', J)) : pj_D h 77 [.ref a, .ref b] (zc n, I, J) Q := by
  have hf := cpP_far _ ha
  have hf : a + 8 ≤ b ∨ b + 8 ≤ a := hf
  have hC := pj_D_le 0
  refine pj_ent (g := 0) hh (t := mt_77) rfl rfl (g77_0 hC ha I J ?_)
  have L2 : ∀ m k (I1 : Nat → Nat → Int32), m + k = 7 → (∀ k, k < 8 → I1 (a + 1) k = I (b + 1) k) → (∀ k, k < 8 → I1 (a + 2) k = I (b + 2) k &&& 1) → (∀ k, k < 7 → I1 (a + 3) k = I (b + 3) k) → (∀ k, k < 7 → I1 (a + 4) k = I (b + 4) k) → (∀ k, k < 7 → I1 (a + 5) k = I (b + 5) k) → (∀ k, k < 7 → I1 (a + 6) k = I (b + 6) k) →
      (∀ j, j < k → I1 (a + 7) j = I (b + 7) j &&& 1) → (∀ c j, c ≤ a ∨ a + 8 ≤ c → I1 c j = I c j) → pj_R (pj_D 0) ta mc_77 false Q 103 [some (.ref a), some (.ref b), some (.int (nI k))] [] (zc n) I1 J 0 0 := by
    intro m
    induction m with
    | zero =>
      intro k I1 hk e1 e2 e3 e4 e5 e6 e7 e8
      obtain rfl : k = 7 := by omega
      refine g77_103 hC ha I1 J _ (pk_le 7 7 (fun _ => q _ ?_) (fun c => by omega))
      have w : ∀ c j, c ≠ a → pj_u (pj_u I1 a 7 (I1 b 7)) a 8 (I1 b 8) c j = I1 c j := fun c j hc => by rw [pj_u_n hc, pj_u_n hc]
      refine ⟨fun k hk => (w _ _ (by omega)).trans (e1 k hk), fun k hk => (w _ _ (by omega)).trans (e2 k hk), fun k hk => (w _ _ (by omega)).trans (e3 k hk), fun k hk => (w _ _ (by omega)).trans (e4 k hk), fun k hk => (w _ _ (by omega)).trans (e5 k hk), fun k hk => (w _ _ (by omega)).trans (e6 k hk), fun k hk => (w _ _ (by omega)).trans (e7 k hk), ?_, ?_, fun c j hS => ?_⟩
      · rw [pj_u_j (by decide), pj_u_e]
        exact e8 b 7 (by omega)
      · rw [pj_u_e]
        exact e8 b 8 (by omega)
      · obtain ⟨f1, f2⟩ := lS_f hS
        by_cases hc : c = a
        · obtain ⟨g1, g2⟩ := f2 hc
          rw [pj_u_j g2, pj_u_j g1]
          exact e8 c j f1
        · rw [w c j hc]
          exact e8 c j f1
    | succ m ih =>
      intro k I1 hk e1 e2 e3 e4 e5 e6 e7 e8
      refine g77_103 hC ha I1 J _ (pk_le 7 k (fun c => by omega) (fun c => ⟨pk_in k 7 (by omega), pk_in k 7 (by omega), ?_⟩))
      rw [nI_clamp (by omega), nI_1]
      have w : ∀ c j, c ≠ a + 7 → pj_u I1 (a + 7) k (I1 (b + 7) k &&& 1) c j = I1 c j := fun c j hc => pj_u_n hc
      refine ih (k + 1) _ (by omega) (fun k hk => (w _ _ (by omega)).trans (e1 k hk)) (fun k hk => (w _ _ (by omega)).trans (e2 k hk)) (fun k hk => (w _ _ (by omega)).trans (e3 k hk)) (fun k hk => (w _ _ (by omega)).trans (e4 k hk)) (fun k hk => (w _ _ (by omega)).trans (e5 k hk)) (fun k hk => (w _ _ (by omega)).trans (e6 k hk)) (fun j hj => ?_) (fun c j hc => (w c j (by omega)).trans (e8 c j hc))
      by_cases e : j = k
      · subst e
        rw [pj_u_e, e8 _ _ (by omega)]
      · rw [pj_u_j e]
        exact e7 j (by omega)
  have L1 : ∀ m k (I1 : Nat → Nat → Int32), m + k = 8 → (∀ k, k < 8 → I1 (a + 1) k = I (b + 1) k) → (∀ j, j < k → I1 (a + 2) j = I (b + 2) j &&& 1) → (∀ c j, c ≠ a + 1 → c ≠ a + 2 → I1 c j = I c j) → pj_R (pj_D 0) ta mc_77 false Q 17 [some (.ref a), some (.ref b), some (.int (nI k))] [] (zc n) I1 J 0 0 := by
    intro m
    induction m with
    | zero =>
      intro k I1 hk e1 e2 e8
      obtain rfl : k = 8 := by omega
      refine g77_17 hC ha I1 J _ (pk_le 8 8 (fun _ => ?_) (fun c => by omega))
      have w : ∀ c j, c ≠ a + 3 → c ≠ a + 4 → c ≠ a + 5 → c ≠ a + 6 → pj_cp (pj_cp (pj_cp (pj_cp I1 (b + 3) (a + 3) 0 0 7) (b + 4) (a + 4) 0 0 7) (b + 5) (a + 5) 0 0 7) (b + 6) (a + 6) 0 0 7 c j = I1 c j := fun c j h3 h4 h5 h6 => by rw [cp_n h6, cp_n h5, cp_n h4, cp_n h3]
      refine L2 7 0 _ (by omega) (fun k hk => (w _ _ (by omega) (by omega) (by omega) (by omega)).trans (e1 k hk)) (fun k hk => (w _ _ (by omega) (by omega) (by omega) (by omega)).trans (e2 k hk)) (fun k hk => ?_) (fun k hk => ?_) (fun k hk => ?_) (fun k hk => ?_) (fun j hj => by omega) (fun c j hc => (w c j (by omega) (by omega) (by omega) (by omega)).trans (e8 c j (by omega) (by omega)))
      · rw [cp_n (by omega), cp_n (by omega), cp_n (by omega), cp_in hk]
        exact e8 _ _ (by omega) (by omega)
      · rw [cp_n (by omega), cp_n (by omega), cp_in hk, cp_n (by omega)]
        exact e8 _ _ (by omega) (by omega)
      · rw [cp_n (by omega), cp_in hk, cp_n (by omega), cp_n (by omega)]
        exact e8 _ _ (by omega) (by omega)
      · rw [cp_in hk, cp_n (by omega), cp_n (by omega), cp_n (by omega)]
        exact e8 _ _ (by omega) (by omega)
    | succ m ih =>
      intro k I1 hk e1 e2 e8
      refine g77_17 hC ha I1 J _ (pk_le 8 k (fun c => by omega) (fun c => ⟨pk_in k 8 (by omega), pk_in k 8 (by omega), ?_⟩))
      rw [nI_clamp (by omega), nI_1]
      refine ih (k + 1) _ (by omega) (fun k hk => (pj_u_n (by omega)).trans (e1 k hk)) (fun j hj => ?_) (fun c j h1 h2 => (pj_u_n h2).trans (e8 c j h1 h2))
      by_cases e : j = k
      · subst e
        rw [pj_u_e, e8 _ _ (by omega) (by omega)]
      · rw [pj_u_j e]
        exact e2 j (by omega)
  exact L1 8 0 _ (by omega) (fun k hk => cp_in hk) (fun j hj => by omega) (fun c j h1 _ => cp_n h1)
end PCp
