/-! the reference's statements: names, counts -/
section PMn
variable {n h : Nat} {Q : pj_K} {I : Nat → Nat → Int32} {J : Nat → Nat → Int64} {m : Nat} {f : Nat → Nat}
/-- isOwn -/
theorem m174 (hh : 1 ≤ h) {t : Sg} {v : Int64} (hk : t.k = 1) (hn : nmV t.ls) (hv : v = nmM t.ls) (q : Q (some (.int (bi (own t).isSome))) (zc n, I, J)) : pj_D h 174 [.ref 276, .long v] (zc n, I, J) Q := by
  refine pj_ent (g := 0) hh (t := mt_174) rfl rfl (v174_0 (pj_D_le 0) I J _ ?_)
  have e : ∀ i w, i < 22 → nmM (oww i) = w → (lg_cmp v w = 0 ↔ own t = some i) := fun i w hi hw => by
    rw [lg_cmp_eq, hv, ← hw, nmM_inj hn (oww_v i hi), own_w hi]
    exact ⟨fun z => ⟨hk, z⟩, fun z => z.2⟩
  have yes : ∀ {i}, own t = some i → Q (some (.int 1)) (zc n, I, J) := fun c => by rw [c] at q; exact q
  rw [e 0 _ (by decide) nm0, e 1 _ (by decide) nm1, e 2 _ (by decide) nm2, e 3 _ (by decide) nm3, e 4 _ (by decide) nm4, e 5 _ (by decide) nm5, e 6 _ (by decide) nm6, e 7 _ (by decide) nm7, e 8 _ (by decide) nm8, e 9 _ (by decide) nm9, e 10 _ (by decide) nm10, e 11 _ (by decide) nm11, e 12 _ (by decide) nm12, e 13 _ (by decide) nm13, e 14 _ (by decide) nm14, e 15 _ (by decide) nm15, e 16 _ (by decide) nm16, e 17 _ (by decide) nm17, e 18 _ (by decide) nm18, e 19 _ (by decide) nm19, e 20 _ (by decide) nm20, e 21 _ (by decide) nm21]
  refine ⟨fun c => yes c, fun n0 => ⟨fun c => yes c, fun n1 => ⟨fun c => yes c, fun n2 => ⟨fun c => yes c, fun n3 => ⟨fun n4 => ?_, fun c => yes c⟩⟩⟩⟩⟩
  refine ⟨fun c => yes c, fun n5 => ⟨fun c => yes c, fun n6 => ⟨fun c => yes c, fun n7 => ⟨fun c => yes c, fun n8 => ⟨fun n9 => ?_, fun c => yes c⟩⟩⟩⟩⟩
  refine ⟨fun c => yes c, fun n10 => ⟨fun c => yes c, fun n11 => ⟨fun c => yes c, fun n12 => ⟨fun c => yes c, fun n13 => ⟨fun n14 => ?_, fun c => yes c⟩⟩⟩⟩⟩
  refine ⟨fun c => yes c, fun n15 => ⟨fun c => yes c, fun n16 => ⟨fun c => yes c, fun n17 => ⟨fun c => yes c, fun n18 => ⟨fun n19 => ?_, fun c => yes c⟩⟩⟩⟩⟩
  refine ⟨fun c => yes c, fun n20 => ⟨fun n21 => ?_, fun c => yes c⟩⟩
  cases z : own t with
  | none => rw [z] at q; exact q
  | some i =>
    have := own_b z
    rw [z] at n0 n1 n2 n3 n4 n5 n6 n7 n8 n9 n10 n11 n12 n13 n14 n15 n16 n17 n18 n19 n20 n21
    simp only [Option.some.injEq] at n0 n1 n2 n3 n4 n5 n6 n7 n8 n9 n10 n11 n12 n13 n14 n15 n16 n17 n18 n19 n20 n21
    omega
/-- counts -/
theorem m172 (hh : 3 ≤ h) {p : Nat} {x : Bool} (hs : MS m f (.ok p) I J) (hk : (sgn m f p).k ≠ 0) (q1 : x = true → ∀ I', pj_fr xM I I' → MS m f (.error (6, (sgn m f p).st)) I' J → Q (some (.int 0)) (zc n, I', J)) (q0 : x = false → ∀ I' J', pj_fr xM I I' → pj_fr jM J J' → MS m f (.ok (sgn m f p).nx) I' J' → Q (some (.int 1)) (zc n, I', J')) : pj_D h 172 [.ref 276, .int (bi x)] (zc n, I, J) Q := by
  refine pj_ent (g := 2) hh (t := mt_172) rfl rfl (v172_0 (pj_D_le 2) I J _ ⟨fun z => absurd hs.2.1 z, fun _ => ?_⟩)
  cases x with
  | false =>
    refine ⟨fun _ => ⟨fun z => absurd hs.2.1 z, fun _ => ?_⟩, fun z => absurd rfl z⟩
    exact m164s (by decide) hs hk (fun I' J' f1 j1 s1 => kV_i ⟨fun z => absurd s1.2.1 z, fun _ => q0 rfl I' J' f1 j1 s1⟩)
  | true =>
    refine ⟨fun z => absurd z (by decide), fun _ => ?_⟩
    rw [hs.2.2.1.2.1]
    exact m169 (a := 6) (by decide) (by decide) (by decide) hs (fun I' f1 s1 => kV_i ⟨fun _ => ⟨fun _ => q1 rfl I' f1 s1, fun z => absurd z (ME_n s1.2).2⟩, fun z => absurd z (ME_n s1.2).2⟩)
/-- named -/
theorem m182 (hh : 3 ≤ h) {s : Rs Nat} (hs : MS m f s I J) (q : ∀ I' v, pj_fr xM I I' → MS m f (bd s fun p => bd (nam (sgn m f) p) fun _ => .ok p) I' J → (∀ p l, s = .ok p → nam (sgn m f) p = .ok l → v = nmM l) → Q (some (.long v)) (zc n, I', J)) : pj_D h 182 [.ref 276] (zc n, I, J) Q := by
  refine pj_ent (g := 2) hh (t := mt_182) rfl rfl (v182_0 (pj_D_le 2) I J (m168 (by decide) hs (fun I1 f1 s1 => kV_i ?_)))
  cases s with
  | error e => exact br_f (ME_n s1.2).1 (q I1 _ f1 s1 (fun p l z => by cases z))
  | ok p =>
    by_cases c4 : (sgn m f p).k = 4
    · have u : lxs (sgn m f) (.ok p) = .error (1, (sgn m f p).pl) := if_pos c4
      rw [u] at s1
      have un : nam (sgn m f) p = .error (1, (sgn m f p).pl) := by unfold nam; rw [if_neg (fun z => by omega)]
      refine br_f (ME_n s1.2).1 (q I1 _ f1 ?_ (fun p' v z y => by cases z; rw [un] at y; cases y))
      show MS m f (bd (nam (sgn m f) p) _) I1 J
      rw [un]
      exact s1
    · have u : lxs (sgn m f) (.ok p) = .ok p := if_neg c4
      rw [u] at s1
      have kv := sgn_kv (m := m) (f := f) (p := p) (fun k hk => (hs.1.2.2 k hk).2)
      have h3 := s1.2.2.1.1
      rw [if_neg c4] at h3
      have e1 : (I1 276 3 = 1) ↔ (sgn m f p).k = 1 := by rw [h3]; exact nI_eq (b := 1) (by omega) (by decide)
      have bad : ¬ ((sgn m f p).k = 1 ∧ own (sgn m f p) = none) → pj_D 2 169 [.ref 276, .int 1, .int (I1 276 4)] (zc n, I1, J) (kV n fun I2 J2 => Q (some (.long (J2 276 7))) (zc n, I2, J2)) := fun cr => by
        have un : nam (sgn m f) p = .error (1, (sgn m f p).pl) := by unfold nam; rw [if_neg cr]
        rw [s1.2.2.1.2.1]
        refine m169 (a := 1) (by decide) (by decide) (by decide) s1 (fun I2 f2 s2 => kV_i (q I2 _ (xtr f1 f2) ?_ (fun p' v z y => by cases z; rw [un] at y; cases y)))
        show MS m f (bd (nam (sgn m f) p) _) I2 J
        rw [un, sgn_c.1 c4]
        exact s2
      refine br_t (by rw [s1.2.1]; decide) ?_
      rw [e1]
      refine ⟨fun c1 => bad (fun z => c1 z.1), fun c1 => m174 (by decide) c1 (sgn_1 c1) (s1.2.2.1.2.2.2.2.1 c1) (kI_i ?_)⟩
      cases z : own (sgn m f p) with
      | none =>
        have un : nam (sgn m f) p = .ok (sgn m f p).ls := by unfold nam; rw [if_pos ⟨c1, z⟩]
        refine ⟨fun _ => q I1 _ f1 ?_ (fun p' v z y => ?_), fun y => absurd rfl y⟩
        · show MS m f (bd (nam (sgn m f) p) _) I1 J
          rw [un]
          exact s1
        · cases z
          rw [un] at y
          cases y
          exact s1.2.2.1.2.2.2.2.1 c1
      | some i => exact ⟨fun y => absurd y smN, fun _ => bad (fun y => by rw [z] at y; cases y.2)⟩
theorem cnd_M {W : Wk} {B : Nat} {l : List Nat} (hV : WV W) (hl : nmV l) (hc : ∀ k, k < W.nc → J 290 (8 * B + k) = nmM (W.cnm k)) : ff (fun k => decide (J 290 (8 * B + k) = nmM l)) W.nc 0 = cnd W l := ff_cong (fun j _ hj => by
  have hj : j < W.nc := by omega
  rw [hc j hj]
  exact decide_eq_decide.mpr (nmM_inj (hV.2.2.1 j hj).2.2.2 hl))
theorem mnd_M {W : Wk} {B : Nat} {l : List Nat} (hV : WV W) (hl : nmV l) (hc : ∀ k, k < W.nm → J 291 (7 * B + k) = nmM (W.mnm k)) : ff (fun k => decide (J 291 (7 * B + k) = nmM l)) W.nm 0 = mnd W l := ff_cong (fun j _ hj => by
  have hj : j < W.nm := by omega
  rw [hc j hj]
  exact decide_eq_decide.mpr (nmM_inj (hV.2.2.2.1 j hj).2.2.2 hl))
/-- fresh -/
theorem m173 (hh : 4 ≤ h) {p B : Nat} {W : Wk} (hs : MS m f (.ok p) I J) (hB : I 276 29 = nI B) (hB2 : B < 2) (h12 : I 278 B = nI W.nc) (h8 : W.nc ≤ 8) (h13 : I 281 B = nI W.nm) (h7 : W.nm ≤ 7) (hc : ∀ k, k < W.nc → J 290 (8 * B + k) = nmM (W.cnm k)) (hm : ∀ k, k < W.nm → J 291 (7 * B + k) = nmM (W.mnm k)) (hV : WV W) (q : ∀ I' J' v, pj_fr xM I I' → pj_fr jM J J' → MS m f (bd (frs (sgn m f) W p) fun l => .ok l.2) I' J' → (∀ l, frs (sgn m f) W p = .ok l → v = nmM l.1) → Q (some (.long v)) (zc n, I', J')) : pj_D h 173 [.ref 276] (zc n, I, J) Q := by
  refine pj_ent (g := 3) hh (t := mt_173) rfl rfl (v173_0 (pj_D_le 3) I J (m168 (by decide) hs (fun I1 f1 s1 => kV_i ?_)))
  have e97 : ∀ e I2 (v : Int64), frs (sgn m f) W p = .error e → pj_fr xM I I2 → MS m f (.error e) I2 J → Q (some (.long v)) (zc n, I2, J) := fun e I2 v un f2 s2 => q I2 J v f2 pj_fr_rf (by rw [un]; exact s2) (fun l y => by rw [un] at y; cases y)
  have e81 : ∀ e I2, frs (sgn m f) W p = .error e → pj_fr xM I I2 → MS m f (.error e) I2 J → pj_R (pj_D 3) ta mc_173 false Q 81 [some (.ref 276), none, none] [] (zc n) I2 J 0 0 := fun e I2 un f2 s2 => v173_81 (pj_D_le 3) I2 J ⟨fun _ => v173_97 (pj_D_le 3) I2 J _ (e97 e I2 _ un f2 s2), fun z => absurd z (ME_n s2.2).2⟩
  by_cases c4 : (sgn m f p).k = 4
  · have u : lxs (sgn m f) (.ok p) = .error (1, (sgn m f p).pl) := if_pos c4
    rw [u] at s1
    have un : nam (sgn m f) p = .error (1, (sgn m f p).pl) := by unfold nam; rw [if_neg (fun z => by omega)]
    exact br_f (ME_n s1.2).1 (e97 _ I1 _ (by unfold frs; rw [un]; rfl) f1 s1)
  · have u : lxs (sgn m f) (.ok p) = .ok p := if_neg c4
    rw [u] at s1
    have kv := sgn_kv (m := m) (f := f) (p := p) (fun k hk => (hs.1.2.2 k hk).2)
    have h3 := s1.2.2.1.1
    rw [if_neg c4] at h3
    have e1 : (I1 276 3 = 1) ↔ (sgn m f p).k = 1 := by rw [h3]; exact nI_eq (b := 1) (by omega) (by decide)
    have bad : ¬ ((sgn m f p).k = 1 ∧ own (sgn m f p) = none) → pj_R (pj_D 3) ta mc_173 false Q 32 [some (.ref 276), none, none] [] (zc n) I1 J 0 0 := fun cr => by
      have un : nam (sgn m f) p = .error (1, (sgn m f p).pl) := by unfold nam; rw [if_neg cr]
      have un : frs (sgn m f) W p = .error (1, (sgn m f p).pl) := by unfold frs; rw [un]; rfl
      refine v173_32 (pj_D_le 3) I1 J ?_
      rw [s1.2.2.1.2.1]
      refine m169 (a := 1) (by decide) (by decide) (by decide) s1 (fun I2 f2 s2 => kV_i (v173_41 (pj_D_le 3) I2 J ⟨fun _ => e81 _ I2 un (xtr f1 f2) ?_, fun z => absurd z (ME_n s2.2).2⟩))
      rw [sgn_c.1 c4]
      exact s2
    refine br_t (by rw [s1.2.1]; decide) ?_
    rw [e1]
    refine ⟨fun c1 => bad (fun z => c1 z.1), fun c1 => m174 (by decide) c1 (sgn_1 c1) (s1.2.2.1.2.2.2.2.1 c1) (kI_i ?_)⟩
    cases z : own (sgn m f p) with
    | some i => exact ⟨fun y => absurd y smN, fun _ => bad (fun y => by rw [z] at y; cases y.2)⟩
    | none =>
      refine ⟨fun _ => ?_, fun y => absurd rfl y⟩
      have un : nam (sgn m f) p = .ok (sgn m f p).ls := by unfold nam; rw [if_pos ⟨c1, z⟩]
      have n1 := sgn_1 (n := m) (f := f) (p := p) c1
      have uf : frs (sgn m f) W p = if (cnd W (sgn m f p).ls).isSome = true ∨ (mnd W (sgn m f p).ls).isSome = true then .error (2, (sgn m f p).st) else .ok ((sgn m f p).ls, (sgn m f p).nx) := by unfold frs; rw [un]; rfl
      have j7 : J 276 7 = nmM (sgn m f p).ls := s1.2.2.1.2.2.2.2.1 c1
      have b72 : (cnd W (sgn m f p).ls).isSome = true ∨ (mnd W (sgn m f p).ls).isSome = true → pj_R (pj_D 3) ta mc_173 false Q 72 [some (.ref 276), none, none] [] (zc n) I1 J 0 0 := fun cc => by
        rw [if_pos cc] at uf
        refine v173_72 (pj_D_le 3) I1 J ?_
        rw [s1.2.2.1.2.1]
        exact m169 (a := 2) (by decide) (by decide) (by decide) s1 (fun I2 f2 s2 => kV_i (e81 _ I2 uf (xtr f1 f2) s2))
      refine v173_41 (pj_D_le 3) I1 J ⟨fun y => absurd s1.2.1 y, fun _ => ?_⟩
      rw [j7]
      refine s175 (by decide) ((f1 276 29 rfl).trans hB) hB2 ((f1 278 B rfl).trans h12) h8 (kI_i ?_)
      rw [cnd_M hV n1 hc, wo_none (o := cnd W (sgn m f p).ls) (fun c e => ff_b h8 (by decide) e)]
      cases z1 : cnd W (sgn m f p).ls with
      | some c => exact ⟨fun _ => b72 (Or.inl (by rw [z1]; rfl)), fun z => by cases z⟩
      | none =>
        refine ⟨fun z => absurd rfl z, fun _ => s176 (by decide) ((f1 276 29 rfl).trans hB) hB2 ((f1 281 B rfl).trans h13) h7 (kI_i ?_)⟩
        rw [j7, mnd_M hV n1 hm, wo_none (o := mnd W (sgn m f p).ls) (fun c e => ff_b h7 (by decide) e)]
        cases z2 : mnd W (sgn m f p).ls with
        | some c => exact ⟨fun z => (by cases z), fun _ => b72 (Or.inr (by rw [z2]; rfl))⟩
        | none =>
          have uf : frs (sgn m f) W p = .ok ((sgn m f p).ls, (sgn m f p).nx) := uf.trans (if_neg (fun z => by
            rcases z with z | z
            · rw [z1] at z; cases z
            · rw [z2] at z; cases z))
          refine ⟨fun _ => v173_81 (pj_D_le 3) I1 J ⟨fun y => absurd s1.2.1 y, fun _ => m164s (by decide) s1 (by omega) (fun I2 J2 f2 j2 s2 => kV_i (v173_97 (pj_D_le 3) I2 J2 _ (q I2 J2 _ (xtr f1 f2) j2 ?_ (fun l y => ?_))))⟩, fun z => absurd rfl z⟩
          · rw [uf]
            exact s2
          · rw [uf] at y
            cases y
            exact j7
end PMn
