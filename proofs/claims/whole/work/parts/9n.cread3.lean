/-! the class's reading: parts and facts -/
section PRf
variable {m : Nat} {f : Nat → Nat} {pg o d D : Nat}
theorem pgi {k : Nat} {I : Nat → Nat → Int32} (hp : pg < 3) (hk : k < 3) (h : I 31 5 = nI pg) : (I 31 5 = nI k) ↔ pg = k := by rw [h]; exact nI_eq (by omega) (by omega)
theorem f61 {n h : Nat} {Q : pj_K} {I : Nat → Nat → Int32} {J : Nat → Nat → Int64} (hh : 1 ≤ h) {t : Sg} (hp : pg < 3) (hg : I 31 5 = nI pg) (q : Q (some (.int (bi (vwd pg (own t)).isSome))) (zc n, I, J)) : pj_D h 61 [.ref 31, .int (wo (own t))] (zc n, I, J) Q := by
  refine pj_ent (g := 0) hh (t := mt_61) rfl rfl (v61_0 (pj_D_le 0) I J _ ?_)
  have o1 : ∀ k, k < 22 → wo (own t) = nI k → own t = some k := fun k hk => (ow_i hk).mp
  have o2 : ∀ k, k < 22 → ¬ wo (own t) = nI k → ¬ own t = some k := fun k hk z e => z ((ow_i hk).mpr e)
  have g0 : (I 31 5 = 0) ↔ pg = 0 := pgi (k := 0) hp (by decide) hg
  have g2 : (I 31 5 = 2) ↔ pg = 2 := pgi (k := 2) hp (by decide) hg
  rw [g0, g2]
  refine ⟨fun z => ?_, fun z0 => ?_⟩
  · rw [o1 0 (by decide) z] at q
    refine ⟨fun y => ?_, fun y => ?_⟩
    · have e : vwd pg (some 0) = none := by unfold vwd; exact if_neg y
      rw [e] at q
      exact q
    · subst y
      exact q
  refine ⟨fun z => ?_, fun z1 => ?_⟩
  · rw [o1 1 (by decide) z] at q
    exact q
  refine ⟨fun z => ?_, fun z2 => ?_⟩
  · rw [o1 2 (by decide) z] at q
    refine ⟨fun y => ?_, fun y => ?_⟩
    · have e : vwd pg (some 2) = none := by unfold vwd; exact if_neg y
      rw [e] at q
      exact q
    · subst y
      exact q
  refine ⟨fun z => ?_, fun z3 => ?_⟩
  · rw [o1 3 (by decide) z] at q
    exact q
  refine ⟨fun z => ?_, fun z4 => ?_⟩
  · rw [o1 4 (by decide) z] at q
    exact q
  refine ⟨fun z => ?_, fun z5 => ?_⟩
  · rw [o1 5 (by decide) z] at q
    exact q
  refine ⟨fun z => ?_, fun z6 => ?_⟩
  · rw [o1 6 (by decide) z] at q
    exact q
  refine ⟨fun z => ?_, fun z7 => ?_⟩
  · rw [o1 7 (by decide) z] at q
    exact q
  refine ⟨fun z => ?_, fun z8 => ?_⟩
  · rw [o1 8 (by decide) z] at q
    exact q
  refine ⟨fun z => ?_, fun z9 => ?_⟩
  · rw [o1 9 (by decide) z] at q
    exact q
  refine ⟨fun z => ?_, fun z10 => ?_⟩
  · rw [o1 10 (by decide) z] at q
    exact q
  refine ⟨fun z => ?_, fun z11 => ?_⟩
  · rw [o1 11 (by decide) z] at q
    exact q
  refine ⟨fun z => ?_, fun z12 => ?_⟩
  · rw [o1 12 (by decide) z] at q
    refine ⟨fun y => ?_, fun y => ?_⟩
    · have e : vwd pg (some 12) = none := by unfold vwd; exact if_neg y
      rw [e] at q
      exact q
    · subst y
      exact q
  refine ⟨fun z => ?_, fun z13 => ?_⟩
  · rw [o1 13 (by decide) z] at q
    refine ⟨fun y => ?_, fun y => ?_⟩
    · have e : vwd pg (some 13) = none := by unfold vwd; exact if_neg y
      rw [e] at q
      exact q
    · subst y
      exact q
  refine ⟨fun z => ?_, fun z14 => ?_⟩
  · rw [o1 14 (by decide) z] at q
    refine ⟨fun y => ?_, fun y => ?_⟩
    · have e : vwd pg (some 14) = none := by unfold vwd; exact if_neg y
      rw [e] at q
      exact q
    · subst y
      exact q
  have e : vwd pg (own t) = none := by
    unfold vwd
    split
    · rename_i e; exact absurd e (o2 1 (by decide) z1)
    · rename_i e; exact absurd e (o2 4 (by decide) z4)
    · rename_i e; exact absurd e (o2 11 (by decide) z11)
    · rename_i e; exact absurd e (o2 0 (by decide) z0)
    · rename_i e; exact absurd e (o2 2 (by decide) z2)
    · rename_i e; exact absurd e (o2 12 (by decide) z12)
    · rename_i e; exact absurd e (o2 13 (by decide) z13)
    · rename_i e; exact absurd e (o2 14 (by decide) z14)
    · rfl
  rw [e] at q
  exact q
/-- Reading.readChoice -/
theorem f60a {n h : Nat} {Q : pj_K} {I : Nat → Nat → Int32} {J : Nat → Nat → Int64} {S : Pz} {k w oo : Nat} {a : Nat × List Tk} (hd : 5 ≤ d) (hh : d + 1 ≤ h) (ho : k + o = 7) (gS : gdP m pg D false S) (hS : ∀ k', k = k' + 1 → SpX m f pg 57 S (o + 1) d) (hw : w = 20 ∧ oo = 36 ∨ w = 21 ∧ oo = 37) (hs : RS m f pg o (.ok a) I) (hz : zl 0 (.ok a)) (hk : own (sgn m f a.1) = some w) (q : ∀ I', pj_fr eS I I' → RS m f pg o (stp (.ok ((sgn m f a.1).nx, a.2)) (chz (sgn m f) k S (2, oo))) I' → Q none (zc n, I', J)) : pj_D h 60 [.ref 31, .int (nI w)] (zc n, I, J) Q := by
  refine pj_ent (g := h - 1) (by omega) (t := mt_60) rfl rfl (v60_0 (pj_D_le _) I J _ ?_)
  have k1 := own_k hk
  have z1 := zl_ad (m := m) (f := f) hz (by omega)
  refine f65 (by omega) hs (fun b e => by cases e; exact Or.inl k1) (fun I1 f1 s1 => kV_i ?_)
  have s1 : RS m f pg o (.ok ((sgn m f a.1).nx, a.2)) I1 := s1
  have z1 : zl 1 (.ok ((sgn m f a.1).nx, a.2)) := z1
  generalize ((sgn m f a.1).nx) = p at s1 z1 q
  refine f69 (c := 40) (by omega) (by decide) s1 (fun v hv => kI_i ?_)
  rw [hv _ rfl]
  cases e : isS (sgn m f p) 40 with
  | false =>
    refine ⟨fun z => absurd rfl z, fun _ => f43 (by omega) s1 (fun I2 f2 s2 => kV_i (q I2 (pj_fr_tr (eS_w f1) f2) ?_))⟩
    have u : stp (.ok (p, a.2)) (chz (sgn m f) k S (2, oo)) = .error (1, (sgn m f p).pl) := by
      show bd (chz (sgn m f) k S (2, oo) p) _ = _
      unfold chz
      rw [e]
      rfl
    rw [u]
    exact s2
  | true =>
    refine ⟨fun _ => ?_, fun z => absurd z (by decide)⟩
    have k3 := (isS_k e).1
    have z2 := zl_ad (m := m) (f := f) (a := (p, a.2)) (zl_m z1) (by show (sgn m f p).k ≠ 0; omega)
    refine f52 (a := (p, a.2)) (k := k) (by omega) ho s1 (Or.inr (Or.inr k3)) (fun k0 I2 f2 s2 => kI_i ⟨fun z => absurd rfl z, fun _ => q I2 (pj_fr_tr (eS_w f1) f2) ?_⟩) (fun k' ek I2 f2 s2 => kI_i ⟨fun _ => ?_, fun z => absurd z (by decide)⟩)
    · have u : stp (.ok (p, a.2)) (chz (sgn m f) k S (2, oo)) = .error (5, (sgn m f p).st) := by
        show bd (chz (sgn m f) k S (2, oo) p) _ = _
        unfold chz
        rw [e, k0]
        rfl
      rw [u]
      exact s2
    · have hS1 := hS k' ek
      subst ek
      rw [stp_chz e] at q
      have ne : ¬ nI w = 15 := fun z => by
        have := (nI_eq (b := 15) (by omega) (by decide)).mp z
        omega
      refine ⟨fun _ => ?_, fun z => absurd z ne⟩
      refine hS1 n (h - 1) _ I2 J _ (by omega) s2 (zl_m z2) (fun I3 f3 s3 => kV_i ?_)
      have z3 := stp_zl gS z2
      refine f55 (c := 44) (by omega) (by decide) s3 (fun I4 f4 s4 => kV_i ?_)
      have z4 := sts_zl (c := 44) (sgn_TN (n := m) (f := f)) z3
      refine hS1 n (h - 1) _ I4 J _ (by omega) s4 (zl_m (zl_m z4)) (fun I5 f5 s5 => kV_i ?_)
      have z5 := stp_zl gS z4
      refine f55 (c := 41) (by omega) (by decide) s5 (fun I6 f6 s6 => kV_i ?_)
      have f6 := pj_fr_u (a := 31) (k := 4) (v := I6 31 4 - 1) f6 rfl
      have s6 := RS_d s6
      have z6 := sts_zl (c := 41) (sgn_TN (n := m) (f := f)) z5
      refine f53 (by omega) (t := (2, oo)) s6 (fun b eb => ⟨?_, zl_lt (zl_m (zl_m z6)) s6 b eb⟩) (fun I7 f7 s7 => kV_i (q I7 (pj_fr_tr (pj_fr_tr (pj_fr_tr (pj_fr_tr (pj_fr_tr (pj_fr_tr (eS_w f1) f2) f3) f4) f5) f6) f7) s7))
      rcases hw with ⟨rfl, rfl⟩ | ⟨rfl, rfl⟩ <;> decide
theorem f60b {n h : Nat} {Q : pj_K} {I : Nat → Nat → Int32} {J : Nat → Nat → Int64} {S Te : Pz} {k : Nat} {a : Nat × List Tk} (hd : 5 ≤ d) (hh : d + 1 ≤ h) (ho : k + o = 7) (gS : gdP m pg D false S) (gT : gdP m pg D true Te) (hS : ∀ k', k = k' + 1 → SpX m f pg 57 S (o + 1) d) (hT : ∀ k', k = k' + 1 → SpX m f pg 49 Te (o + 1) d) (hs : RS m f pg o (.ok a) I) (hz : zl 0 (.ok a)) (hk : own (sgn m f a.1) = some 15) (q : ∀ I', pj_fr eS I I' → RS m f pg o (stp (.ok ((sgn m f a.1).nx, a.2)) (iff (sgn m f) k S Te)) I' → Q none (zc n, I', J)) : pj_D h 60 [.ref 31, .int (nI 15)] (zc n, I, J) Q := by
  refine pj_ent (g := h - 1) (by omega) (t := mt_60) rfl rfl (v60_0 (pj_D_le _) I J _ ?_)
  have k1 := own_k hk
  have z1 := zl_ad (m := m) (f := f) hz (by omega)
  refine f65 (by omega) hs (fun b e => by cases e; exact Or.inl k1) (fun I1 f1 s1 => kV_i ?_)
  have s1 : RS m f pg o (.ok ((sgn m f a.1).nx, a.2)) I1 := s1
  have z1 : zl 1 (.ok ((sgn m f a.1).nx, a.2)) := z1
  generalize ((sgn m f a.1).nx) = p at s1 z1 q
  refine f69 (c := 40) (by omega) (by decide) s1 (fun v hv => kI_i ?_)
  rw [hv _ rfl]
  cases e : isS (sgn m f p) 40 with
  | false =>
    refine ⟨fun z => absurd rfl z, fun _ => f43 (by omega) s1 (fun I2 f2 s2 => kV_i (q I2 (pj_fr_tr (eS_w f1) f2) ?_))⟩
    have u : stp (.ok (p, a.2)) (iff (sgn m f) k S Te) = .error (1, (sgn m f p).pl) := by
      show bd (iff (sgn m f) k S Te p) _ = _
      unfold iff
      rw [e]
      rfl
    rw [u]
    exact s2
  | true =>
    refine ⟨fun _ => ?_, fun z => absurd z (by decide)⟩
    have k3 := (isS_k e).1
    have z2 := zl_ad (m := m) (f := f) (a := (p, a.2)) (zl_m z1) (by show (sgn m f p).k ≠ 0; omega)
    refine f52 (a := (p, a.2)) (k := k) (by omega) ho s1 (Or.inr (Or.inr k3)) (fun k0 I2 f2 s2 => kI_i ⟨fun z => absurd rfl z, fun _ => q I2 (pj_fr_tr (eS_w f1) f2) ?_⟩) (fun k' ek I2 f2 s2 => kI_i ⟨fun _ => ?_, fun z => absurd z (by decide)⟩)
    · have u : stp (.ok (p, a.2)) (iff (sgn m f) k S Te) = .error (5, (sgn m f p).st) := by
        show bd (iff (sgn m f) k S Te p) _ = _
        unfold iff
        rw [e, k0]
        rfl
      rw [u]
      exact s2
    · have hS1 := hS k' ek
      have hT1 := hT k' ek
      subst ek
      rw [stp_iff e] at q
      refine ⟨fun z => absurd rfl z, fun _ => ?_⟩
      refine hT1 n (h - 1) _ I2 J _ (by omega) s2 (zl_m z2) (fun I3 f3 s3 => kV_i ?_)
      have z3 := stp_zl gT z2
      refine f55 (c := 44) (by omega) (by decide) s3 (fun I4 f4 s4 => kV_i ?_)
      have z4 := sts_zl (c := 44) (sgn_TN (n := m) (f := f)) z3
      refine hS1 n (h - 1) _ I4 J _ (by omega) s4 (zl_m (zl_m z4)) (fun I5 f5 s5 => kV_i ?_)
      have z5 := stp_zl gS z4
      refine f55 (c := 44) (by omega) (by decide) s5 (fun I6 f6 s6 => kV_i ?_)
      have z6 := sts_zl (c := 44) (sgn_TN (n := m) (f := f)) z5
      refine hS1 n (h - 1) _ I6 J _ (by omega) s6 (zl_m (zl_m (zl_m z6))) (fun I7 f7 s7 => kV_i ?_)
      have z7 := stp_zl gS z6
      refine f55 (c := 41) (by omega) (by decide) s7 (fun I8 f8 s8 => kV_i ?_)
      have f8 := pj_fr_u (a := 31) (k := 4) (v := I8 31 4 - 1) f8 rfl
      have s8 := RS_d s8
      have z8 := sts_zl (c := 41) (sgn_TN (n := m) (f := f)) z7
      exact f53 (by omega) (t := (4, 0)) s8 (fun b eb => ⟨by decide, zl_lt (zl_m (zl_m (zl_m z8))) s8 b eb⟩) (fun I9 f9 s9 => kV_i (q I9 (pj_fr_tr (pj_fr_tr (pj_fr_tr (pj_fr_tr (pj_fr_tr (pj_fr_tr (pj_fr_tr (pj_fr_tr (eS_w f1) f2) f3) f4) f5) f6) f7) f8) f9) s9))
/-- Reading.readPart -/
theorem sp59 {S Te : Pz} {k : Nat} (hp : pg < 3) (hd : 5 ≤ d) (ho : k + o = 7) (gS : gdP m pg D false S) (gT : gdP m pg D true Te) (hS : ∀ k', k = k' + 1 → SpX m f pg 57 S (o + 1) d) (hT : ∀ k', k = k' + 1 → SpX m f pg 49 Te (o + 1) d) : SpX m f pg 59 (par (sgn m f) pg k S Te) o (d + 2) := by
  intro n h Q I J s hh hs hz q
  refine pj_ent (g := h - 1) (by omega) (t := mt_59) rfl rfl (v59_0 (pj_D_le _) I J (f37 (by omega) hs (kI_i ?_)))
  cases s with
  | error e => exact ⟨fun z => absurd z erN, fun _ => q I pj_fr_rf hs⟩
  | ok a =>
    refine ⟨fun _ => ?_, fun z => absurd rfl z⟩
    have hsc := hs.2.2.1
    have kv := sgn_kv (m := m) (f := f) (p := a.1) (fun k hk => (hs.1.1.2.2 k hk).2)
    have u : stp (.ok a) (par (sgn m f) pg k S Te) = bd (par (sgn m f) pg k S Te a.1) fun r => .ok (r.2, a.2 ++ r.1) := rfl
    rw [u] at q
    unfold par at q
    have e2 : (I 32 2 = 2) ↔ (sgn m f a.1).k = 2 := by rw [hsc.1]; exact nI_eq (b := 2) (by omega) (by decide)
    rw [e2]
    refine ⟨fun c2 => ?_, fun c2 => ?_⟩
    rotate_left
    · rw [if_pos c2] at q
      refine f53 (by omega) (t := (0, (sgn m f a.1).v)) hs (fun b eb => ⟨hsc.2.2.2.2.2.2 (Or.inl c2), zl_l0 hz (by omega) hs b eb⟩) (fun I1 f1 s1 => kV_i ?_)
      exact f65 (by omega) s1 (fun b eb => by cases eb; exact Or.inr (Or.inl c2)) (fun I2 f2 s2 => kV_i (q I2 (pj_fr_tr f1 (eS_w f2)) s2))
    · rw [if_neg c2] at q
      refine f69 (c := 40) (by omega) (by decide) hs (fun v hv => kI_i ?_)
      rw [hv a rfl]
      cases e : isS (sgn m f a.1) 40 with
      | true =>
        rw [if_pos e] at q
        have k3 := (isS_k e).1
        refine ⟨fun z => absurd z (by decide), fun _ => ?_⟩
        have z2 := zl_ad (m := m) (f := f) hz (by omega)
        refine f52 (k := k) (by omega) ho hs (Or.inr (Or.inr k3)) (fun k0 I2 f2 s2 => kI_i ⟨fun _ => q I2 f2 ?_, fun z => absurd rfl z⟩) (fun k' ek I2 f2 s2 => kI_i ⟨fun z => absurd z (by decide), fun _ => ?_⟩)
        · rw [k0]; exact s2
        · have hS1 := hS k' ek
          subst ek
          refine hS1 n (h - 1) _ I2 J _ (by omega) s2 (zl_m z2) (fun I3 f3 s3 => kV_i ?_)
          refine f55 (c := 41) (by omega) (by decide) s3 (fun I4 f4 s4 => kV_i (q _ (pj_fr_u (pj_fr_tr (pj_fr_tr f2 f3) f4) rfl) ?_))
          have s4 := RS_d s4
          have u2 : (bd (opn (sgn m f) (k' + 1) a.1 (bd (S (sgn m f a.1).nx) fun r => bd (exS (sgn m f) 41 r.2) fun q => .ok (r.1, q))) fun r => .ok (r.2, a.2 ++ r.1)) = sts (sgn m f) 41 (stp (.ok ((sgn m f a.1).nx, a.2)) S) := by
            show bd (bd (S (sgn m f a.1).nx) _) _ = _
            simp only [stp, sts, bd_o, bd_bd]
          rw [u2]
          exact s4
      | false =>
        rw [if_neg (by rw [e]; decide)] at q
        refine ⟨fun _ => ?_, fun z => absurd rfl z⟩
        have h4 := hsc.2.2.2.2.1
        have w20 : (wo (own (sgn m f a.1)) = 20) ↔ own (sgn m f a.1) = some 20 := ow_i (k := 20) (by decide)
        have w21 : (wo (own (sgn m f a.1)) = 21) ↔ own (sgn m f a.1) = some 21 := ow_i (k := 21) (by decide)
        have w15 : (wo (own (sgn m f a.1)) = 15) ↔ own (sgn m f a.1) = some 15 := ow_i (k := 15) (by decide)
        rw [h4, w20, w21, w15]
        refine ⟨fun c => ?_, fun c20 => ⟨fun c => ?_, fun c21 => ⟨fun c15 => ?_, fun c => ?_⟩⟩⟩
        · rw [if_pos c] at q
          rw [c]
          exact f60a (w := 20) hd (by omega) ho gS hS (Or.inl ⟨rfl, rfl⟩) hs hz c (fun I' f' s' => kV_i (q I' f' s'))
        · rw [if_neg c20, if_pos c] at q
          rw [c]
          exact f60a (w := 21) hd (by omega) ho gS hS (Or.inr ⟨rfl, rfl⟩) hs hz c (fun I' f' s' => kV_i (q I' f' s'))
        · rw [if_neg c20, if_neg c21, if_neg c15] at q
          refine f61 (by omega) hp hs.1.2.2.1 (kI_i ?_)
          cases ew : vwd pg (own (sgn m f a.1)) with
          | none =>
            rw [ew] at q
            exact ⟨fun _ => f43 (by omega) hs (fun I2 f2 s2 => kV_i (q I2 f2 s2)), fun z => absurd rfl z⟩
          | some w =>
            rw [ew] at q
            refine ⟨fun z => absurd z smN, fun _ => ?_⟩
            obtain ⟨-, cc, o1, o2⟩ := vwd_al ew
            have k1 := own_k o1
            rw [h4, o1, o2]
            refine f53 (by omega) (t := (1, w)) hs (fun b eb => ⟨rfl, zl_l0 hz (by omega) hs b eb⟩) (fun I1 f1 s1 => kV_i ?_)
            exact f65 (by omega) s1 (fun b eb => by cases eb; exact Or.inl k1) (fun I2 f2 s2 => kV_i (q I2 (pj_fr_tr f1 (eS_w f2)) s2))
        · rw [if_neg c20, if_neg c21, if_pos c] at q
          rw [c]
          exact f60b hd (by omega) ho gS gT hS hT hs hz c (fun I' f' s' => kV_i (q I' f' s'))
/-- Reading.readComparison -/
theorem f56 {n h : Nat} {Q : pj_K} {I : Nat → Nat → Int32} {J : Nat → Nat → Int64} {S : Pz} {a : Nat × List Tk} (hd : 5 ≤ d) (hh : d + 1 ≤ h) (gS : gdP m pg D false S) (hS : SpX m f pg 57 S o d) (hs : RS m f pg o (.ok a) I) (hz : zl 0 (.ok a)) (q : ∀ I', pj_fr eS I I' → RS m f pg o (stp (.ok a) (cpr (sgn m f) S)) I' → Q none (zc n, I', J)) : pj_D h 56 [.ref 31] (zc n, I, J) Q := by
  refine pj_ent (g := h - 1) (by omega) (t := mt_56) rfl rfl (v56_0 (pj_D_le _) I J (hS n (h - 1) _ I J _ (by omega) hs hz (fun I1 f1 s1 => kV_i ?_)))
  have z1 := stp_zl gS hz
  have u : stp (.ok a) (cpr (sgn m f) S) = bd (stp (.ok a) S) fun b => match opC (sgn m f b.1) with
      | none => .error (1, (sgn m f b.1).pl)
      | some oo => ste (2, oo) (stp (.ok ((sgn m f b.1).nx, b.2)) S) := by
    show bd (bd (S a.1) _) _ = bd (bd (S a.1) _) _
    cases S a.1 with
    | error e => rfl
    | ok x =>
      show bd (match opC (sgn m f x.2) with | none => _ | some o => _) _ = (match opC (sgn m f x.2) with | none => _ | some oo => _)
      cases opC (sgn m f x.2) with
      | none => rfl
      | some oo =>
        show bd (bd (S (sgn m f x.2).nx) _) _ = _
        simp only [stp, ste, bd_o, bd_bd, List.append_assoc]
  rw [u] at q
  clear u
  generalize stp (.ok a) S = s at q s1 z1
  cases s with
  | error e =>
    have rest : ∀ v : Int32, pj_D (h - 1) 65 [.ref 32] (zc n, I1, J) (kV n fun I3 J3 => pj_D (h - 1) 57 [.ref 31] (zc n, I3, J3) (kV n fun I4 J4 => pj_D (h - 1) 53 [.ref 31, .int v] (zc n, I4, J4) (kV n fun I5 J5 => Q none (zc n, I5, J5)))) := fun v =>
      f65 (by omega) s1 (fun b eb => by cases eb) (fun I2 f2 s2 => kV_i (hS n (h - 1) _ I2 J _ (by omega) s2 zl_er (fun I3 f3 s3 => kV_i (f53 (by omega) (t := (0, 0)) s3 (fun b eb => by cases eb) (fun I4 f4 s4 => kV_i (q I4 (pj_fr_tr (pj_fr_tr (pj_fr_tr f1 (eS_w f2)) f3) f4) s4))))))
    exact f69 (c := 60) (by omega) (by decide) s1 (fun v _ => kI_i ⟨fun _ => rest _, fun _ => f69 (c := 62) (by omega) (by decide) s1 (fun v _ => kI_i ⟨fun _ => rest _, fun _ => f69 (c := 61) (by omega) (by decide) s1 (fun v _ => kI_i ⟨fun _ => rest _, fun _ => f43 (by omega) s1 (fun I2 f2 s2 => kV_i (q I2 (pj_fr_tr f1 f2) s2))⟩)⟩)⟩)
  | ok b =>
    have rest : ∀ oo, opC (sgn m f b.1) = some oo → pj_D (h - 1) 65 [.ref 32] (zc n, I1, J) (kV n fun I3 J3 => pj_D (h - 1) 57 [.ref 31] (zc n, I3, J3) (kV n fun I4 J4 => pj_D (h - 1) 53 [.ref 31, .int (-100 - I1 32 3)] (zc n, I4, J4) (kV n fun I5 J5 => Q none (zc n, I5, J5)))) := fun oo eo => by
      obtain ⟨k3, ev⟩ := opC_c eo
      have z2 := zl_ad (m := m) (f := f) z1 (by omega)
      have q : ∀ I', pj_fr eS I I' → RS m f pg o (match opC (sgn m f b.1) with | none => .error (1, (sgn m f b.1).pl) | some oo => ste (2, oo) (stp (.ok ((sgn m f b.1).nx, b.2)) S)) I' → Q none (zc n, I', J) := q
      rw [eo] at q
      refine f65 (by omega) s1 (fun b eb => by cases eb; exact Or.inr (Or.inr k3)) (fun I2 f2 s2 => kV_i (hS n (h - 1) _ I2 J _ (by omega) s2 (zl_m z2) (fun I3 f3 s3 => kV_i ?_)))
      refine f53 (by omega) (t := (2, oo)) s3 (fun b eb => ⟨?_, zl_lt (stp_zl gS z2) s3 b eb⟩) (fun I4 f4 s4 => kV_i (q I4 (pj_fr_tr (pj_fr_tr (pj_fr_tr f1 (eS_w f2)) f3) f4) s4))
      rw [s1.2.2.1.2.2.2.2.2.2 (Or.inr k3)]
      exact ev
    refine f69 (c := 60) (by omega) (by decide) s1 (fun v hv => kI_i ?_)
    rw [hv b rfl]
    cases e1 : isS (sgn m f b.1) 60 with
    | true => exact ⟨fun _ => rest 38 (by unfold opC; rw [if_pos e1]), fun z => absurd z (by decide)⟩
    | false =>
      refine ⟨fun z => absurd rfl z, fun _ => f69 (c := 62) (by omega) (by decide) s1 (fun v hv => kI_i ?_)⟩
      rw [hv b rfl]
      cases e2 : isS (sgn m f b.1) 62 with
      | true => exact ⟨fun _ => rest 39 (by unfold opC; rw [if_neg (by rw [e1]; decide), if_pos e2]), fun z => absurd z (by decide)⟩
      | false =>
        refine ⟨fun z => absurd rfl z, fun _ => f69 (c := 61) (by omega) (by decide) s1 (fun v hv => kI_i ?_)⟩
        rw [hv b rfl]
        cases e3 : isS (sgn m f b.1) 61 with
        | true => exact ⟨fun _ => rest 40 (by unfold opC; rw [if_neg (by rw [e1]; decide), if_neg (by rw [e2]; decide), if_pos e3]), fun z => absurd z (by decide)⟩
        | false =>
          have eo : opC (sgn m f b.1) = none := by unfold opC; rw [if_neg (by rw [e1]; decide), if_neg (by rw [e2]; decide), if_neg (by rw [e3]; decide)]
          have q : ∀ I', pj_fr eS I I' → RS m f pg o (match opC (sgn m f b.1) with | none => .error (1, (sgn m f b.1).pl) | some oo => ste (2, oo) (stp (.ok ((sgn m f b.1).nx, b.2)) S)) I' → Q none (zc n, I', J) := q
          rw [eo] at q
          exact ⟨fun z => absurd rfl z, fun _ => f43 (by omega) s1 (fun I2 f2 s2 => kV_i (q I2 (pj_fr_tr f1 f2) s2))⟩
/-- Reading.readFact -/
theorem sp51 {S Te F : Pz} {k : Nat} (hd : 5 ≤ d) (ho : k + o = 7) (gS : gdP m pg D false S) (gT : gdP m pg D true Te) (gF : gdP m pg D true F) (hS : SpX m f pg 57 S o d) (hT : ∀ k', k = k' + 1 → SpX m f pg 49 Te (o + 1) d) (hF : ∀ k', k = k' + 1 → SpX m f pg 51 F (o + 1) d) : SpX m f pg 51 (fct (sgn m f) k S Te F) o (d + 2) := by
  intro n h Q I J s hh hs hz q
  refine pj_ent (g := h - 1) (by omega) (t := mt_51) rfl rfl (v51_0 (pj_D_le _) I J (f37 (by omega) hs (kI_i ?_)))
  cases s with
  | error e => exact ⟨fun z => absurd z erN, fun _ => q I pj_fr_rf hs⟩
  | ok a =>
    refine ⟨fun _ => ?_, fun z => absurd rfl z⟩
    have hsc := hs.2.2.1
    have u : stp (.ok a) (fct (sgn m f) k S Te F) = bd (fct (sgn m f) k S Te F a.1) fun r => .ok (r.2, a.2 ++ r.1) := rfl
    rw [u] at q
    unfold fct at q
    have h4 := hsc.2.2.2.2.1
    have w18 : (wo (own (sgn m f a.1)) = 18) ↔ own (sgn m f a.1) = some 18 := ow_i (k := 18) (by decide)
    have w19 : (wo (own (sgn m f a.1)) = 19) ↔ own (sgn m f a.1) = some 19 := ow_i (k := 19) (by decide)
    rw [h4, w18]
    refine ⟨fun c18 => ?_, fun c18 => ?_⟩
    · rw [if_neg c18] at q
      refine f69 (c := 91) (by omega) (by decide) hs (fun v hv => kI_i ?_)
      rw [hv a rfl]
      cases e : isS (sgn m f a.1) 91 with
      | true =>
        rw [if_pos e] at q
        have k3 := (isS_k e).1
        refine ⟨fun z => absurd z (by decide), fun _ => ?_⟩
        have z2 := zl_ad (m := m) (f := f) hz (by omega)
        refine f52 (k := k) (by omega) ho hs (Or.inr (Or.inr k3)) (fun k0 I2 f2 s2 => kI_i ⟨fun _ => q I2 f2 ?_, fun z => absurd rfl z⟩) (fun k' ek I2 f2 s2 => kI_i ⟨fun z => absurd z (by decide), fun _ => ?_⟩)
        · rw [k0]; exact s2
        · have hT1 := hT k' ek
          subst ek
          refine hT1 n (h - 1) _ I2 J _ (by omega) s2 (zl_m z2) (fun I3 f3 s3 => kV_i ?_)
          refine f55 (c := 93) (by omega) (by decide) s3 (fun I4 f4 s4 => kV_i (q _ (pj_fr_u (pj_fr_tr (pj_fr_tr f2 f3) f4) rfl) ?_))
          have s4 := RS_d s4
          have u2 : (bd (opn (sgn m f) (k' + 1) a.1 (bd (Te (sgn m f a.1).nx) fun r => bd (exS (sgn m f) 93 r.2) fun q => .ok (r.1, q))) fun r => .ok (r.2, a.2 ++ r.1)) = sts (sgn m f) 93 (stp (.ok ((sgn m f a.1).nx, a.2)) Te) := by
            show bd (bd (Te (sgn m f a.1).nx) _) _ = _
            simp only [stp, sts, bd_o, bd_bd]
          rw [u2]
          exact s4
      | false =>
        rw [if_neg (by rw [e]; decide)] at q
        refine ⟨fun _ => ?_, fun z => absurd rfl z⟩
        rw [h4, w19]
        refine ⟨fun c19 => ?_, fun c19 => ?_⟩
        · rw [if_neg c19] at q
          exact f56 hd (by omega) gS hS hs hz (fun I' f' s' => kV_i (q I' f' s'))
        · rw [if_pos c19] at q
          have k1 := own_k c19
          refine f65 (by omega) hs (fun b eb => by cases eb; exact Or.inl k1) (fun I1 f1 s1 => kV_i ?_)
          exact f53 (by omega) (t := (5, 0)) s1 (fun b eb => ⟨by decide, zl_lt (zl_ad (m := m) (f := f) hz (by omega)) s1 b eb⟩) (fun I2 f2 s2 => kV_i (q I2 (pj_fr_tr (eS_w f1) f2) s2))
    · rw [if_pos c18] at q
      have k1 := own_k c18
      have z2 := zl_ad (m := m) (f := f) hz (by omega)
      refine f52 (k := k) (by omega) ho hs (Or.inl k1) (fun k0 I2 f2 s2 => kI_i ⟨fun _ => q I2 f2 ?_, fun z => absurd rfl z⟩) (fun k' ek I2 f2 s2 => kI_i ⟨fun z => absurd z (by decide), fun _ => ?_⟩)
      · rw [k0]; exact s2
      · have hF1 := hF k' ek
        subst ek
        refine hF1 n (h - 1) _ I2 J _ (by omega) s2 (zl_m z2) (fun I3 f3 s3 => kV_i ?_)
        have s3' := RS_d s3
        have z3 := stp_zl gF z2
        refine f53 (by omega) (t := (3, 0)) s3' (fun b eb => ⟨by decide, zl_lt z3 s3' b eb⟩) (fun I4 f4 s4 => kV_i (q I4 (pj_fr_tr (pj_fr_u (pj_fr_tr f2 f3) rfl) f4) ?_))
        have u2 : (bd (opn (sgn m f) (k' + 1) a.1 (bd (F (sgn m f a.1).nx) fun x => .ok (x.1 ++ [(3, 0)], x.2))) fun r => .ok (r.2, a.2 ++ r.1)) = ste (3, 0) (stp (.ok ((sgn m f a.1).nx, a.2)) F) := by
          show bd (bd (F (sgn m f a.1).nx) _) _ = _
          simp only [stp, ste, bd_o, bd_bd, List.append_assoc]
        rw [u2]
        exact s4
/-- one level on the one below -/
theorem spN {k : Nat} {lo : Pz × Pz × Pz} (hp : pg < 3) (hd : 5 ≤ d) (ho : k + o = 7) (g1 : gdP m pg D false lo.1) (g2 : gdP m pg D true lo.2.1) (g3 : gdP m pg D true lo.2.2) (h1 : ∀ k', k = k' + 1 → SpX m f pg 57 lo.1 (o + 1) d) (h2 : ∀ k', k = k' + 1 → SpX m f pg 49 lo.2.1 (o + 1) d) (h3 : ∀ k', k = k' + 1 → SpX m f pg 51 lo.2.2 (o + 1) d) : SpX m f pg 57 (lvN (sgn m f) pg k lo).1 o (d + 8) ∧ SpX m f pg 49 (lvN (sgn m f) pg k lo).2.1 o (d + 8) ∧ SpX m f pg 51 (lvN (sgn m f) pg k lo).2.2 o (d + 8) := by
  have tn := sgn_TN (n := m) (f := f)
  have gp := par_gd (k := k) (sgn_TN (n := m) (f := f)) g1 g2
  have gs1 := chn_gd tn (fun _ _ h => opP_o h) gp
  have gs := chn_gd tn (fun _ _ h => opS_o h) gs1
  have p := sp59 hp hd ho g1 g2 h1 h2
  have s1 := sp58 (by omega) gp p
  have s := sp57 (by omega) gs1 s1
  have gf := fct_gd (k := k) tn gs (gdP_m (by omega) g2) (gdP_m (by omega) g3)
  have ga := chn_gd tn (fun _ _ h => opA_o h) gf
  have fc := sp51 (d := d + 4) (by omega) ho gs (gdP_m (by omega) g2) (gdP_m (by omega) g3) s (fun k' e => SpX_m (by omega) (h2 k' e)) (fun k' e => SpX_m (by omega) (h3 k' e))
  have bo := sp50 (by omega) gf fc
  have te := sp49 (by omega) ga bo
  exact ⟨SpX_m (by omega) s, te, SpX_m (by omega) fc⟩
theorem spL (hp : pg < 3) : ∀ (k o : Nat), k + o = 7 → SpX m f pg 57 (lev (sgn m f) pg k).1 o (8 * k + 13) ∧ SpX m f pg 49 (lev (sgn m f) pg k).2.1 o (8 * k + 13) ∧ SpX m f pg 51 (lev (sgn m f) pg k).2.2 o (8 * k + 13)
  | 0, o, ho => by
    have z : ∀ b, gdP m pg 0 b dumz := fun b p c p' e => by cases e
    exact spN (D := 0) (d := 5) (k := 0) hp (by decide) ho (z _) (z _) (z _) (fun k' e => by omega) (fun k' e => by omega) (fun k' e => by omega)
  | k + 1, o, ho => by
    have ih := spL hp k (o + 1) (by omega)
    have g := lev_gd (pg := pg) (sgn_TN (n := m) (f := f)) k
    have t := spN (d := 8 * k + 13) (k := k + 1) hp (by omega) ho g.1 g.2.1 g.2.2 (fun k' e => ih.1) (fun k' e => ih.2.1) (fun k' e => ih.2.2)
    rw [show 8 * (k + 1) + 13 = 8 * k + 13 + 8 by omega]
    exact t
end PRf
