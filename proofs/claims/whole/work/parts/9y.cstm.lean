/-! the class's reading: words, numbers, names -/
def zb (s : Zt) (g : Nat → Rs Nat) : Zt := bd s fun a => bd (g a.1) fun q => .ok (q, a.2)
def rsC : Nat → Nat → Bool := fun c j => c == 3 || c == 4 || c == 33 || c == 26 || c == 32 || (c == 31 && (j == 2 || j == 3 || j == 4 || j == 5)) || (c == 18 && j == 14)
section PRs
variable {n h : Nat} {Q : pj_K} {I : Nat → Nat → Int32} {J : Nat → Nat → Int64} {m : Nat} {f : Nat → Nat} {pg o : Nat}
theorem RS_fr {s : Zt} {I' : Nat → Nat → Int32} (hf : ∀ c j, rsC c j = true → I' c j = I c j) (hs : RS m f pg o s I) : RS m f pg o s I' := by
  refine ⟨⟨TC_fr (fun c j hc => hf c j (by rcases hc with rfl | rfl <;> rfl)) hs.1.1, fun k hk => (hf 33 k rfl).trans (hs.1.2.1 k hk), (hf 31 5 rfl).trans hs.1.2.2.1, ?_⟩, ?_⟩
  · obtain ⟨cd, h1, h2, h3⟩ := hs.1.2.2.2
    exact ⟨cd, h1, (hf 18 14 rfl).trans h2, fun z => (hf 31 3 rfl).trans (h3 ((hf 31 2 rfl).symm.trans z))⟩
  · cases s with
    | error e => exact ⟨(hf 31 2 rfl).trans hs.2.1, hs.2.2.1, hs.2.2.2.1, (hf 31 3 rfl).trans hs.2.2.2.2⟩
    | ok a =>
      obtain ⟨b1, b2, b3, b4, b5, b6, b7⟩ := hs.2
      exact ⟨(hf 31 2 rfl).trans b1, SCs_fr (fun j => hf 32 j rfl) b2, b3, (hf 31 4 rfl).trans b4, (hf 18 14 rfl).trans b5, b6, CC_fr (fun j _ _ => hf 26 j rfl) b7⟩
theorem rs_x {c j c' j' : Nat} {v : Int32} (h : rsC c j = false) (h' : rsC c' j' = true) : pj_u I c j v c' j' = I c' j' := by
  unfold pj_u
  split
  · rename_i e1
    split
    · rename_i e2
      subst e1
      subst e2
      rw [h] at h'
      cases h'
    · rfl
  · rfl
theorem RS_u {s : Zt} {c j : Nat} {v : Int32} (h : rsC c j = false) (hs : RS m f pg o s I) : RS m f pg o s (pj_u I c j v) := RS_fr (fun _ _ h' => rs_x h h') hs
/-- the program told anew -/
theorem RS_pg {s : Zt} {k : Nat} (hs : RS m f pg o s I) : RS m f k o s (pj_u I 31 5 (nI k)) := by
  refine ⟨⟨TC_fr (fun c j hc => by rw [pj_u_n (by omega)]) hs.1.1, fun k hk => by rw [pj_u_n (by decide)]; exact hs.1.2.1 k hk, pj_u_e, ?_⟩, ?_⟩
  · obtain ⟨cd, h1, h2, h3⟩ := hs.1.2.2.2
    exact ⟨cd, h1, by rw [pj_u_n (by decide)]; exact h2, fun z => by rw [pj_u_j (by decide)] at z ⊢; exact h3 z⟩
  · cases s with
    | error e => exact ⟨by rw [pj_u_j (by decide)]; exact hs.2.1, hs.2.2.1, hs.2.2.2.1, by rw [pj_u_j (by decide)]; exact hs.2.2.2.2⟩
    | ok a =>
      obtain ⟨b1, b2, b3, b4, b5, b6, b7⟩ := hs.2
      exact ⟨by rw [pj_u_j (by decide)]; exact b1, SCs_fr (fun j => by rw [pj_u_n (by decide)]) b2, b3, by rw [pj_u_j (by decide)]; exact b4, by rw [pj_u_n (by decide)]; exact b5, b6, CC_fr (fun j _ _ => by rw [pj_u_n (by decide)]) b7⟩
/-- Reading.takeWord -/
theorem f44 (hh : 3 ≤ h) {s : Zt} {w : Nat} (hw : w < 22) (hs : RS m f pg o s I) (q : ∀ I', pj_fr eS I I' → RS m f pg o (zb s (wrd (sgn m f) w)) I' → Q none (zc n, I', J)) : pj_D h 44 [.ref 31, .int (nI w)] (zc n, I, J) Q := by
  refine pj_ent (g := 2) hh (t := mt_44) rfl rfl (v44_0 (pj_D_le 2) I J _ (f37 (by decide) hs (kI_i ?_)))
  cases s with
  | error e => exact ⟨fun _ => f43 (by decide) hs (fun I' f1 s1 => kV_i (q I' f1 s1)), fun z => absurd z erN⟩
  | ok a =>
    refine ⟨fun z => absurd rfl z, fun _ => ?_⟩
    rw [hs.2.2.1.2.2.2.2.1, ow_i hw]
    by_cases c : own (sgn m f a.1) = some w
    · have u : zb (.ok a) (wrd (sgn m f) w) = .ok ((sgn m f a.1).nx, a.2) := by
        show bd (wrd (sgn m f) w a.1) _ = _
        unfold wrd
        rw [if_pos c]
        rfl
      refine br_t c (f65 (by decide) hs (fun b eb => ?_) (fun I' f1 s1 => kV_i (q I' (eS_w f1) (by rw [u]; exact s1))))
      cases eb
      exact Or.inl (own_k c)
    · have u : zb (.ok a) (wrd (sgn m f) w) = .error (1, (sgn m f a.1).pl) := by
        show bd (wrd (sgn m f) w a.1) _ = _
        unfold wrd
        rw [if_neg c]
        rfl
      exact br_f c (f43 (by decide) hs (fun I' f1 s1 => kV_i (q I' f1 (by rw [u]; exact s1))))
/-- Reading.takeNumber -/
theorem f45 (hh : 3 ≤ h) {s : Zt} {x y : Nat} (hx : x < 2 ^ 31) (hy : y < 2 ^ 31) (hs : RS m f pg o s I) (q : ∀ I' v, pj_fr eS I I' → RS m f pg o (zb s fun p => bd (num (sgn m f) x y p) fun v => .ok v.2) I' → (∀ a w, s = .ok a → num (sgn m f) x y a.1 = .ok w → v = nI w.1) → Q (some (.int v)) (zc n, I', J)) : pj_D h 45 [.ref 31, .int (nI x), .int (nI y)] (zc n, I, J) Q := by
  refine pj_ent (g := 2) hh (t := mt_45) rfl rfl (v45_0 (pj_D_le 2) I J _ _ (f37 (by decide) hs (kI_i ?_)))
  cases s with
  | error e => exact ⟨fun _ => f43 (by decide) hs (fun I' f1 s1 => kV_i (q I' _ f1 s1 (fun a w z => by cases z))), fun z => absurd z erN⟩
  | ok a =>
    have kv := sgn_kv (m := m) (f := f) (p := a.1) (fun k hk => (hs.1.1.2.2 k hk).2)
    refine ⟨fun z => absurd rfl z, fun _ => ?_⟩
    have e2 : (I 32 2 = 2) ↔ (sgn m f a.1).k = 2 := by rw [hs.2.2.1.1]; exact nI_eq (b := 2) (by omega) (by decide)
    rw [e2]
    refine ⟨fun c2 => ?_, fun c2 => ?_⟩
    · have h3 := hs.2.2.1.2.2.2.2.2.2 (Or.inl c2)
      have h5 := hs.2.2.1.2.1
      have bad : ¬ (x ≤ (sgn m f a.1).v ∧ (sgn m f a.1).v ≤ y) → pj_D 2 39 [.ref 31, .int 4, .int (nI (sgn m f a.1).st)] (zc n, I, J) (kV n fun I3 J3 => pj_D 2 65 [.ref 32] (zc n, I3, J3) (kV n fun I4 J4 => Q (some (.int (I3 32 3))) (zc n, I4, J4))) := fun cr => by
        have un : num (sgn m f) x y a.1 = .error (4, (sgn m f a.1).st) := by unfold num; rw [if_pos c2, if_neg cr]
        refine f39 (a := 4) (by decide) (by decide) (by decide) hs (fun I3 f3 s3 => kV_i (f65 (by decide) s3 (fun b e => by cases e) (fun I4 f4 s4 => kV_i (q I4 _ (pj_fr_tr f3 (eS_w f4)) ?_ (fun b w z y => by cases z; rw [un] at y; cases y)))))
        show RS m f pg o (bd (bd (num (sgn m f) x y a.1) _) _) I4
        rw [un]
        exact s4
      rw [h3, h5, nI_ltI (by omega) hx, nI_leI (by omega) hy]
      by_cases c3 : (sgn m f a.1).v < x
      · exact br_t c3 (bad (by omega))
      · refine br_f c3 ?_
        by_cases c4 : (sgn m f a.1).v ≤ y
        · have un : num (sgn m f) x y a.1 = .ok ((sgn m f a.1).v, (sgn m f a.1).nx) := by unfold num; rw [if_pos c2, if_pos ⟨by omega, c4⟩]
          refine br_t c4 (f65 (by decide) hs (fun b e => by cases e; exact Or.inr (Or.inl c2)) (fun I4 f4 s4 => kV_i (q I4 _ (eS_w f4) ?_ (fun b w z y => by cases z; rw [un] at y; cases y; rfl))))
          show RS m f pg o (bd (bd (num (sgn m f) x y a.1) _) _) I4
          rw [un]
          exact s4
        · exact br_f c4 (bad (by omega))
    · have un : num (sgn m f) x y a.1 = .error (1, (sgn m f a.1).pl) := by unfold num; rw [if_neg c2]
      refine f43 (by decide) hs (fun I' f1 s1 => kV_i (q I' _ f1 ?_ (fun b w z y => by cases z; rw [un] at y; cases y)))
      show RS m f pg o (bd (bd (num (sgn m f) x y a.1) _) _) I'
      rw [un]
      exact s1
/-- Reading.peekName -/
theorem f42 (hh : 3 ≤ h) {s : Zt} (hs : RS m f pg o s I) (q : ∀ I' v, pj_fr eS I I' → RS m f pg o (bd s fun a => bd (nam (sgn m f) a.1) fun _ => .ok a) I' → (∀ a l, s = .ok a → nam (sgn m f) a.1 = .ok l → v = nmC l) → Q (some (.int v)) (zc n, I', J)) : pj_D h 42 [.ref 31] (zc n, I, J) Q := by
  refine pj_ent (g := 2) hh (t := mt_42) rfl rfl (v42_0 (pj_D_le 2) I J (f37 (by decide) hs (kI_i ?_)))
  cases s with
  | error e => exact ⟨fun _ => f43 (by decide) hs (fun I' f1 s1 => kV_i (q I' _ f1 s1 (fun a w z => by cases z))), fun z => absurd z erN⟩
  | ok a =>
    have kv := sgn_kv (m := m) (f := f) (p := a.1) (fun k hk => (hs.1.1.2.2 k hk).2)
    refine ⟨fun z => absurd rfl z, fun _ => ?_⟩
    have e1 : (I 32 2 = 1) ↔ (sgn m f a.1).k = 1 := by rw [hs.2.2.1.1]; exact nI_eq (b := 1) (by omega) (by decide)
    have e4 : (I 32 4 = -1) ↔ own (sgn m f a.1) = none := by rw [hs.2.2.1.2.2.2.2.1]; exact wo_none (fun c e => by have := own_b e; omega)
    have bad : ¬ ((sgn m f a.1).k = 1 ∧ own (sgn m f a.1) = none) → pj_D 2 43 [.ref 31] (zc n, I, J) (kV n fun I3 J3 => Q (some (.int 0)) (zc n, I3, J3)) := fun cr => by
      have un : nam (sgn m f) a.1 = .error (1, (sgn m f a.1).pl) := by unfold nam; rw [if_neg cr]
      refine f43 (by decide) hs (fun I' f1 s1 => kV_i (q I' _ f1 ?_ (fun b w z y => by cases z; rw [un] at y; cases y)))
      show RS m f pg o (bd (nam (sgn m f) a.1) _) I'
      rw [un]
      exact s1
    rw [e1, e4]
    by_cases c1 : (sgn m f a.1).k = 1
    · refine ⟨fun z => absurd c1 z, fun _ => ?_⟩
      by_cases c2 : own (sgn m f a.1) = none
      · have un : nam (sgn m f) a.1 = .ok (sgn m f a.1).ls := by unfold nam; rw [if_pos ⟨c1, c2⟩]
        refine br_t c2 (q I _ pj_fr_rf ?_ (fun b l z y => ?_))
        · show RS m f pg o (bd (nam (sgn m f) a.1) _) I
          rw [un]
          exact hs
        · cases z
          rw [un] at y
          cases y
          exact hs.2.2.1.2.2.2.2.2.1 c1
      · exact br_f c2 (bad (fun z => c2 z.2))
    · exact ⟨fun _ => bad (fun z => c1 z.1), fun z => absurd z c1⟩
/-- names looked up -/
theorem cnd_C {W : Wk} {l : List Nat} (hV : WV W) (hl : nmV l) (hc : ∀ k, k < W.nc → I 19 k = nmC (W.cnm k)) : ff (fun k => decide (I 19 k = nmC l)) W.nc 0 = cnd W l := ff_cong (fun j _ hj => by
  have hj : j < W.nc := by omega
  rw [hc j hj]
  exact decide_eq_decide.mpr (nmC_inj (hV.2.2.1 j hj).2.2.2 hl))
theorem mnd_C {W : Wk} {l : List Nat} (hV : WV W) (hl : nmV l) (hc : ∀ k, k < W.nm → I 22 k = nmC (W.mnm k)) : ff (fun k => decide (I 22 k = nmC l)) W.nm 0 = mnd W l := ff_cong (fun j _ hj => by
  have hj : j < W.nm := by omega
  rw [hc j hj]
  exact decide_eq_decide.mpr (nmC_inj (hV.2.2.2.1 j hj).2.2.2 hl))
theorem ff_b {p : Nat → Bool} {k c N : Nat} (hk : k ≤ N) (hN : N < 2 ^ 31) (e : ff p k 0 = some c) : c < 2 ^ 31 := by
  have := ff_some e
  omega
/-- Reading.takeNewName -/
theorem f41 (hh : 4 ≤ h) {a : Nat × List Tk} {W : Wk} (hs : RS m f pg o (.ok a) I) (h12 : I 18 12 = nI W.nc) (h8 : W.nc ≤ 8) (h13 : I 18 13 = nI W.nm) (h7 : W.nm ≤ 7) (hc : ∀ k, k < W.nc → I 19 k = nmC (W.cnm k)) (hm : ∀ k, k < W.nm → I 22 k = nmC (W.mnm k)) (hV : WV W) (q : ∀ I' v, pj_fr eS I I' → RS m f pg o (zb (.ok a) fun p => bd (frs (sgn m f) W p) fun l => .ok l.2) I' → (∀ l, frs (sgn m f) W a.1 = .ok l → v = nmC l.1) → Q (some (.int v)) (zc n, I', J)) : pj_D h 41 [.ref 31] (zc n, I, J) Q := by
  refine pj_ent (g := 3) hh (t := mt_41) rfl rfl (v41_0 (pj_D_le 3) I J (f42 (by decide) hs (fun I1 v1 f1 s1 hv => kI_i ?_)))
  have bad : ∀ e, frs (sgn m f) W a.1 = .error e → ∀ I2, pj_fr eS I I2 → RS m f pg o (.error e) I2 → pj_D 3 65 [.ref 32] (zc n, I2, J) (kV n fun I4 J4 => Q (some (.int v1)) (zc n, I4, J4)) := fun e un I2 f2 s2 => by
    refine f65 (by decide) s2 (fun b e => by cases e) (fun I4 f4 s4 => kV_i (q I4 _ (pj_fr_tr f2 (eS_w f4)) ?_ (fun l y => by rw [un] at y; cases y)))
    show RS m f pg o (bd (bd (frs (sgn m f) W a.1) _) _) I4
    rw [un]
    exact s4
  refine s101 (by decide) ((f1 18 12 rfl).trans h12) h8 (kI_i ?_)
  cases e1 : nam (sgn m f) a.1 with
  | error e =>
    have un : frs (sgn m f) W a.1 = .error e := by unfold frs; rw [e1]; rfl
    have s1 : RS m f pg o (bd (nam (sgn m f) a.1) _) I1 := s1
    rw [e1] at s1
    have s1 : RS m f pg o (.error e) I1 := s1
    have b1 : pj_D 3 39 [.ref 31, .int 2, .int (I1 32 5)] (zc n, I1, J) (kV n fun I3 J3 => pj_D 3 65 [.ref 32] (zc n, I3, J3) (kV n fun I4 J4 => Q (some (.int v1)) (zc n, I4, J4))) := f39e (by decide) s1 (kV_i (bad e un I1 f1 s1))
    refine ⟨fun _ => b1, fun _ => s102 (by decide) ((f1 18 13 rfl).trans h13) h7 (kI_i ⟨fun _ => bad e un I1 f1 s1, fun _ => b1⟩)⟩
  | ok l =>
    have n1 := nam_ok e1
    have hv1 := hv a l rfl e1
    subst hv1
    have s1 : RS m f pg o (bd (nam (sgn m f) a.1) _) I1 := s1
    rw [e1] at s1
    have s1 : RS m f pg o (.ok a) I1 := s1
    have un : frs (sgn m f) W a.1 = if (cnd W l).isSome = true ∨ (mnd W l).isSome = true then .error (2, (sgn m f a.1).st) else .ok (l, (sgn m f a.1).nx) := by unfold frs; rw [e1]; rfl
    have b1 : (cnd W l).isSome = true ∨ (mnd W l).isSome = true → pj_D 3 39 [.ref 31, .int 2, .int (I1 32 5)] (zc n, I1, J) (kV n fun I3 J3 => pj_D 3 65 [.ref 32] (zc n, I3, J3) (kV n fun I4 J4 => Q (some (.int (nmC l))) (zc n, I4, J4))) := fun cc => by
      rw [if_pos cc] at un
      rw [s1.2.2.1.2.1]
      exact f39 (a := 2) (by decide) (by decide) (by decide) s1 (fun I3 f3 s3 => kV_i (bad _ un I3 (pj_fr_tr f1 f3) s3))
    rw [cnd_C hV n1.2.2.2 (fun k hk => (f1 19 k rfl).trans (hc k hk)), wo_none (o := cnd W l) (fun c e => ff_b h8 (by decide) e)]
    cases z1 : cnd W l with
    | some c => exact ⟨fun _ => b1 (Or.inl (by rw [z1]; rfl)), fun z => by cases z⟩
    | none =>
      refine ⟨fun z => absurd rfl z, fun _ => s102 (by decide) ((f1 18 13 rfl).trans h13) h7 (kI_i ?_)⟩
      rw [mnd_C hV n1.2.2.2 (fun k hk => (f1 22 k rfl).trans (hm k hk)), wo_none (o := mnd W l) (fun c e => ff_b h7 (by decide) e)]
      cases z2 : mnd W l with
      | some c => exact ⟨fun z => by (cases z), fun _ => b1 (Or.inr (by rw [z2]; rfl))⟩
      | none =>
        have un : frs (sgn m f) W a.1 = .ok (l, (sgn m f a.1).nx) := un.trans (if_neg (fun z => by
          rcases z with z | z
          · rw [z1] at z; cases z
          · rw [z2] at z; cases z))
        refine ⟨fun _ => f65 (by decide) s1 (fun b e => by cases e; exact Or.inl n1.1) (fun I4 f4 s4 => kV_i (q I4 _ (pj_fr_tr f1 (eS_w f4)) ?_ (fun l' y => by rw [un] at y; cases y; rfl))), fun z => absurd rfl z⟩
        show RS m f pg o (bd (bd (frs (sgn m f) W a.1) _) _) I4
        rw [un]
        exact s4
end PRs
