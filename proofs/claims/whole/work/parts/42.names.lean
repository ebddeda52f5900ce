/-! names, first wearers -/
section PNm
variable {n h : Nat} {Q : pj_K} {I : Nat → Nat → Int32} {J : Nat → Nat → Int64}
/-- Works.coatNamed -/
theorem s101 (hh : 1 ≤ h) {m : Nat} {p : Int32} (hc : I 18 12 = nI m) (hm : m ≤ 8) (q : Q (some (.int (wo (ff (fun k => decide (I 19 k = p)) m 0)))) (zc n, I, J)) : pj_D h 101 [.ref 18, .int p] (zc n, I, J) Q := by
  refine pj_ent (g := 0) hh (t := mt_101) rfl rfl (v101_0 (pj_D_le 0) I J _ ?_)
  suffices loop : ∀ r k, r + k = m → Q (some (.int (wo (ff (fun k => decide (I 19 k = p)) r k)))) (zc n, I, J) → pj_R (pj_D 0) ta mc_101 false Q 2 [some (.ref 18), some (.int p), some (.int (nI k))] [] (zc n) I J 0 0 from loop m 0 (by omega) q
  intro r
  induction r with
  | zero =>
    intro k hk q
    refine v101_2 (pj_D_le 0) I J _ _ ?_
    rw [hc]
    exact pk_le m k (fun _ => q) (fun c => by omega)
  | succ r ih =>
    intro k hk q
    refine v101_2 (pj_D_le 0) I J _ _ ?_
    rw [hc, nI_clamp (by omega), nI_1]
    refine pk_le m k (fun c => by omega) (fun c => ⟨pk_in k 8 (by omega), ?_⟩)
    unfold ff at q
    by_cases e : I 19 k = p
    · rw [decide_eq_true e] at q
      exact ⟨fun z => absurd e z, fun _ => q⟩
    · rw [decide_eq_false e] at q
      exact ⟨fun _ => ih (k + 1) (by omega) q, fun z => absurd z e⟩
/-- Works.manNamed -/
theorem s102 (hh : 1 ≤ h) {m : Nat} {p : Int32} (hc : I 18 13 = nI m) (hm : m ≤ 7) (q : Q (some (.int (wo (ff (fun k => decide (I 22 k = p)) m 0)))) (zc n, I, J)) : pj_D h 102 [.ref 18, .int p] (zc n, I, J) Q := by
  refine pj_ent (g := 0) hh (t := mt_102) rfl rfl (v102_0 (pj_D_le 0) I J _ ?_)
  suffices loop : ∀ r k, r + k = m → Q (some (.int (wo (ff (fun k => decide (I 22 k = p)) r k)))) (zc n, I, J) → pj_R (pj_D 0) ta mc_102 false Q 2 [some (.ref 18), some (.int p), some (.int (nI k))] [] (zc n) I J 0 0 from loop m 0 (by omega) q
  intro r
  induction r with
  | zero =>
    intro k hk q
    refine v102_2 (pj_D_le 0) I J _ _ ?_
    rw [hc]
    exact pk_le m k (fun _ => q) (fun c => by omega)
  | succ r ih =>
    intro k hk q
    refine v102_2 (pj_D_le 0) I J _ _ ?_
    rw [hc, nI_clamp (by omega), nI_1]
    refine pk_le m k (fun c => by omega) (fun c => ⟨pk_in k 7 (by omega), ?_⟩)
    unfold ff at q
    by_cases e : I 22 k = p
    · rw [decide_eq_true e] at q
      exact ⟨fun z => absurd e z, fun _ => q⟩
    · rw [decide_eq_false e] at q
      exact ⟨fun _ => ih (k + 1) (by omega) q, fun z => absurd z e⟩
/-- Works.firstWearer -/
theorem s99 (hh : 1 ≤ h) {a m : Nat} {p : Int32} (ha : a ∈ [5, 18]) (hc : I a 13 = nI m) (hm : m ≤ 7) (q : Q (some (.int (wo (ff (fun k => decide (I (a + 7) k = p)) m 0)))) (zc n, I, J)) : pj_D h 99 [.ref a, .int p] (zc n, I, J) Q := by
  refine pj_ent (g := 0) hh (t := mt_99) rfl rfl (g99_0 (pj_D_le 0) ha I J _ ?_)
  suffices loop : ∀ r k, r + k = m → Q (some (.int (wo (ff (fun k => decide (I (a + 7) k = p)) r k)))) (zc n, I, J) → pj_R (pj_D 0) ta mc_99 false Q 2 [some (.ref a), some (.int p), some (.int (nI k))] [] (zc n) I J 0 0 from loop m 0 (by omega) q
  intro r
  induction r with
  | zero =>
    intro k hk q
    refine g99_2 (pj_D_le 0) ha I J _ _ ?_
    rw [hc]
    exact pk_le m k (fun _ => q) (fun c => by omega)
  | succ r ih =>
    intro k hk q
    refine g99_2 (pj_D_le 0) ha I J _ _ ?_
    rw [hc, nI_clamp (by omega), nI_1]
    refine pk_le m k (fun c => by omega) (fun c => ⟨pk_in k 7 (by omega), ?_⟩)
    unfold ff at q
    by_cases e : I (a + 7) k = p
    · rw [decide_eq_true e] at q
      exact ⟨fun z => absurd e z, fun _ => q⟩
    · rw [decide_eq_false e] at q
      exact ⟨fun _ => ih (k + 1) (by omega) q, fun z => absurd z e⟩
/-- Works.hasProgram -/
theorem s103 (hh : 1 ≤ h) {a k f t : Nat} (ha : a ∈ [5, 18]) (hk : k < 3) (hf : I (a + 9) k = nI f) (ht : I (a + 10) k = nI t) (h1 : f < 2 ^ 31) (h2 : t < 2 ^ 31) (q : Q (some (.int (bi (decide (f < t))))) (zc n, I, J)) : pj_D h 103 [.ref a, .int (nI k)] (zc n, I, J) Q := by
  refine pj_ent (g := 0) hh (t := mt_103) rfl rfl (g103_0 (pj_D_le 0) ha I J _ ⟨pk_in k 3 hk, pk_in k 3 hk, ?_⟩)
  rw [nI_clamp (by omega), hf, ht]
  refine pk_le t f (fun c => ?_) (fun c => ?_)
  · rw [decide_eq_false (by omega)] at q; exact q
  · rw [decide_eq_true (by omega)] at q; exact q
/-- PegCoatsModel.coatNamed -/
theorem s175 (hh : 1 ≤ h) {m B : Nat} {p : Int64} (hB : I 276 29 = nI B) (hB2 : B < 2) (hc : I 278 B = nI m) (hm : m ≤ 8) (q : Q (some (.int (wo (ff (fun k => decide (J 290 (8 * B + k) = p)) m 0)))) (zc n, I, J)) : pj_D h 175 [.ref 276, .long p] (zc n, I, J) Q := by
  refine pj_ent (g := 0) hh (t := mt_175) rfl rfl (v175_0 (pj_D_le 0) I J _ ?_)
  suffices loop : ∀ r k, r + k = m → Q (some (.int (wo (ff (fun k => decide (J 290 (8 * B + k) = p)) r k)))) (zc n, I, J) → pj_R (pj_D 0) ta mc_175 false Q 2 [some (.ref 276), some (.long p), none, some (.int (nI k))] [] (zc n) I J 0 0 from loop m 0 (by omega) q
  intro r
  induction r with
  | zero =>
    intro k hk q
    refine v175_2 (pj_D_le 0) I J _ _ ?_
    rw [hB, nI_clamp (by omega), hc]
    exact ⟨vp_in_nI hB2 (by decide), pk_le m k (fun _ => q) (fun c => by omega)⟩
  | succ r ih =>
    intro k hk q
    refine v175_2 (pj_D_le 0) I J _ _ ?_
    rw [hB, nI_clamp (by omega), hc, li_8, nI_clamp (by omega), nI_1]
    refine ⟨vp_in_nI hB2 (by decide), pk_le m k (fun c => by omega) (fun c => ⟨pk_in (8 * B + k) 16 (by omega), ?_⟩)⟩
    unfold ff at q
    by_cases e : J 290 (8 * B + k) = p
    · rw [decide_eq_true e] at q
      exact ⟨fun z => absurd ((lg_cmp_eq _ _).mpr e) z, fun _ => q⟩
    · rw [decide_eq_false e] at q
      exact ⟨fun _ => ih (k + 1) (by omega) q, fun z => absurd ((lg_cmp_eq _ _).mp z) e⟩
/-- PegCoatsModel.manNamed -/
theorem s176 (hh : 1 ≤ h) {m B : Nat} {p : Int64} (hB : I 276 29 = nI B) (hB2 : B < 2) (hc : I 281 B = nI m) (hm : m ≤ 7) (q : Q (some (.int (wo (ff (fun k => decide (J 291 (7 * B + k) = p)) m 0)))) (zc n, I, J)) : pj_D h 176 [.ref 276, .long p] (zc n, I, J) Q := by
  refine pj_ent (g := 0) hh (t := mt_176) rfl rfl (v176_0 (pj_D_le 0) I J _ ?_)
  suffices loop : ∀ r k, r + k = m → Q (some (.int (wo (ff (fun k => decide (J 291 (7 * B + k) = p)) r k)))) (zc n, I, J) → pj_R (pj_D 0) ta mc_176 false Q 2 [some (.ref 276), some (.long p), none, some (.int (nI k))] [] (zc n) I J 0 0 from loop m 0 (by omega) q
  intro r
  induction r with
  | zero =>
    intro k hk q
    refine v176_2 (pj_D_le 0) I J _ _ ?_
    rw [hB, nI_clamp (by omega), hc]
    exact ⟨vp_in_nI hB2 (by decide), pk_le m k (fun _ => q) (fun c => by omega)⟩
  | succ r ih =>
    intro k hk q
    refine v176_2 (pj_D_le 0) I J _ _ ?_
    rw [hB, nI_clamp (by omega), hc, li_7, nI_clamp (by omega), nI_1]
    refine ⟨vp_in_nI hB2 (by decide), pk_le m k (fun c => by omega) (fun c => ⟨pk_in (7 * B + k) 14 (by omega), ?_⟩)⟩
    unfold ff at q
    by_cases e : J 291 (7 * B + k) = p
    · rw [decide_eq_true e] at q
      exact ⟨fun z => absurd ((lg_cmp_eq _ _).mpr e) z, fun _ => q⟩
    · rw [decide_eq_false e] at q
      exact ⟨fun _ => ih (k + 1) (by omega) q, fun z => absurd ((lg_cmp_eq _ _).mp z) e⟩
/-- PegCoatsModel.isWorn -/
theorem s183 (hh : 1 ≤ h) {m B : Nat} {p : Int32} (hB : I 276 29 = nI B) (hB2 : B < 2) (hc : I 281 B = nI m) (hm : m ≤ 7) (q : Q (some (.int (bi (ff (fun k => decide (I 284 (7 * B + k) = p)) m 0).isSome))) (zc n, I, J)) : pj_D h 183 [.ref 276, .int p] (zc n, I, J) Q := by
  refine pj_ent (g := 0) hh (t := mt_183) rfl rfl (v183_0 (pj_D_le 0) I J _ ?_)
  suffices loop : ∀ r k, r + k = m → Q (some (.int (bi (ff (fun k => decide (I 284 (7 * B + k) = p)) r k).isSome))) (zc n, I, J) → pj_R (pj_D 0) ta mc_183 true Q 2 [some (.ref 276), some (.int p), some (.int (nI k))] [] (zc n) I J 0 0 from loop m 0 (by omega) q
  intro r
  induction r with
  | zero =>
    intro k hk q
    refine v183_2 (pj_D_le 0) I J _ _ ?_
    rw [hB, nI_clamp (by omega), hc]
    exact ⟨vp_in_nI hB2 (by decide), pk_le m k (fun _ => q) (fun c => by omega)⟩
  | succ r ih =>
    intro k hk q
    refine v183_2 (pj_D_le 0) I J _ _ ?_
    rw [hB, nI_clamp (by omega), hc, li_7, nI_clamp (by omega), nI_1]
    refine ⟨vp_in_nI hB2 (by decide), pk_le m k (fun c => by omega) (fun c => ⟨pk_in (7 * B + k) 14 (by omega), ?_⟩)⟩
    unfold ff at q
    by_cases e : I 284 (7 * B + k) = p
    · rw [decide_eq_true e] at q
      exact ⟨fun z => absurd e z, fun _ => q⟩
    · rw [decide_eq_false e] at q
      exact ⟨fun _ => ih (k + 1) (by omega) q, fun z => absurd z e⟩
end PNm
