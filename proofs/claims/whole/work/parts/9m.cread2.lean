/-! the class's reading: each level -/
theorem bd_o {α β : Type} {a : α} {g : α → Rs β} : bd (.ok a) g = g a := rfl
theorem bd_bd {α β γ : Type} {x : Rs α} {g : α → Rs β} {k : β → Rs γ} : bd (bd x g) k = bd x (fun a => bd (g a) k) := by cases x <;> rfl
section PLp
variable {T : Nat → Sg} {op : Sg → Option Nat} {P : Pz}
theorem lop_ac : ∀ (r : Nat) (c : List Tk) (p : Nat), lop T op P r c p = bd (lop T op P r [] p) fun x => .ok (c ++ x.1, x.2)
  | 0, c, p => by
    show Except.ok (ε := Nat × Nat) (c, p) = .ok (c ++ [], p)
    rw [List.append_nil]
  | r + 1, c, p => by
    unfold lop
    cases op (T p) with
    | none =>
      show Except.ok (ε := Nat × Nat) (c, p) = .ok (c ++ [], p)
      rw [List.append_nil]
    | some o =>
      show bd (P (T p).nx) _ = bd (bd (P (T p).nx) _) _
      cases P (T p).nx with
      | error e => rfl
      | ok x =>
        show lop T op P r (c ++ (x.1 ++ [(2, o)])) x.2 = bd (lop T op P r ([] ++ (x.1 ++ [(2, o)])) x.2) _
        rw [lop_ac r (c ++ (x.1 ++ [(2, o)])), lop_ac r ([] ++ (x.1 ++ [(2, o)])), bd_bd]
        simp only [bd_o, List.append_assoc, List.nil_append]
theorem stp_chn {s : Zt} : stp s (chn T op P) = stp (stp s P) (lop T op P 1600 []) := by
  cases s with
  | error e => rfl
  | ok a =>
    show bd (bd (P a.1) _) _ = bd (bd (P a.1) _) _
    cases P a.1 with
    | error e => rfl
    | ok x =>
      show bd (lop T op P 1600 x.1 x.2) _ = bd (lop T op P 1600 [] x.2) _
      rw [lop_ac, bd_bd]
      simp only [bd_o, List.append_assoc]
theorem stp_l0 {s : Zt} : stp s (lop T op P 0 []) = s := by
  cases s with
  | error e => rfl
  | ok a =>
    show Except.ok (ε := Nat × Nat) (a.1, a.2 ++ []) = .ok a
    rw [List.append_nil]
theorem stp_ln {r : Nat} {a : Nat × List Tk} (e : op (T a.1) = none) : stp (.ok a) (lop T op P (r + 1) []) = .ok a := by
  show bd (lop T op P (r + 1) [] a.1) _ = _
  unfold lop
  rw [e]
  show Except.ok (ε := Nat × Nat) (a.1, a.2 ++ []) = .ok a
  rw [List.append_nil]
theorem stp_ls {r o : Nat} {a : Nat × List Tk} (e : op (T a.1) = some o) : stp (.ok a) (lop T op P (r + 1) []) = stp (ste (2, o) (stp (adv T (.ok a)) P)) (lop T op P r []) := by
  show bd (lop T op P (r + 1) [] a.1) _ = _
  unfold lop
  rw [e]
  show bd (bd (P (T a.1).nx) _) _ = bd (bd (bd (P (T a.1).nx) _) _) _
  cases P (T a.1).nx with
  | error e => rfl
  | ok x =>
    show bd (lop T op P r ([] ++ (x.1 ++ [(2, o)])) x.2) _ = bd (lop T op P r [] x.2) _
    rw [lop_ac, bd_bd]
    simp only [bd_o, List.append_assoc, List.nil_append]
theorem stp_chz {k p : Nat} {S : Pz} {t : Tk} {C : List Tk} (e : isS (T p) 40 = true) : stp (.ok (p, C)) (chz T (k + 1) S t) = ste t (sts T 41 (stp (sts T 44 (stp (.ok ((T p).nx, C)) S)) S)) := by
  show bd (chz T (k + 1) S t p) _ = _
  unfold chz
  rw [e]
  show bd (bd (S (T p).nx) _) _ = _
  simp only [stp, sts, ste, bd_o, bd_bd, List.append_assoc]
theorem stp_iff {k p : Nat} {S Te : Pz} {C : List Tk} (e : isS (T p) 40 = true) : stp (.ok (p, C)) (iff T (k + 1) S Te) = ste (4, 0) (sts T 41 (stp (sts T 44 (stp (sts T 44 (stp (.ok ((T p).nx, C)) Te)) S)) S)) := by
  show bd (iff T (k + 1) S Te p) _ = _
  unfold iff
  rw [e]
  show bd (bd (Te (T p).nx) _) _ = _
  simp only [stp, sts, ste, bd_o, bd_bd, List.append_assoc]
end PLp
theorem cop_s {t : Sg} {c : Nat} {x : Int32} (h : isS t c = true) (e : -100 - nI c = x) : t.k = 3 ∧ -100 - nI t.v = x := by
  obtain ⟨h1, h2⟩ := isS_k h
  rw [h2]
  exact ⟨h1, e⟩
theorem opP_c {t : Sg} {o : Nat} (h : opP t = some o) : t.k = 3 ∧ -100 - nI t.v = ctk (2, o) := by
  unfold opP at h
  split at h
  · cases h; exact cop_s (by assumption) (by decide)
  · split at h
    · cases h; exact cop_s (by assumption) (by decide)
    · split at h
      · cases h; exact cop_s (by assumption) (by decide)
      · cases h
theorem opS_c {t : Sg} {o : Nat} (h : opS t = some o) : t.k = 3 ∧ -100 - nI t.v = ctk (2, o) := by
  unfold opS at h
  split at h
  · cases h; exact cop_s (by assumption) (by decide)
  · split at h
    · cases h; exact cop_s (by assumption) (by decide)
    · cases h
theorem opC_c {t : Sg} {o : Nat} (h : opC t = some o) : t.k = 3 ∧ -100 - nI t.v = ctk (2, o) := by
  unfold opC at h
  split at h
  · cases h; exact cop_s (by assumption) (by decide)
  · split at h
    · cases h; exact cop_s (by assumption) (by decide)
    · split at h
      · cases h; exact cop_s (by assumption) (by decide)
      · cases h
def SpX (m : Nat) (f : Nat → Nat) (pg j : Nat) (X : Pz) (o d : Nat) : Prop := ∀ (n h : Nat) (Q : pj_K) (I : Nat → Nat → Int32) (J : Nat → Nat → Int64) (s : Zt), d ≤ h → RS m f pg o s I → zl 0 s → (∀ I', pj_fr eS I I' → RS m f pg o (stp s X) I' → Q none (zc n, I', J)) → pj_D h j [.ref 31] (zc n, I, J) Q
theorem SpX_m {m : Nat} {f : Nat → Nat} {pg j o d d' : Nat} {X : Pz} (h : d ≤ d') (s : SpX m f pg j X o d) : SpX m f pg j X o d' := fun n h' Q I J s' hh => s n h' Q I J s' (Nat.le_trans h hh)
section PRe
variable {m : Nat} {f : Nat → Nat} {pg o d D : Nat}
theorem zl_lt {s : Zt} {I : Nat → Nat → Int32} (hz : zl 1 s) (hs : RS m f pg o s I) : ∀ b, s = .ok b → b.2.length < 1600 := fun b e => by
  have z := hz b e
  subst e
  have z1 := hs.2.2.2.1
  have z2 := hs.1.1.1
  omega
theorem zl_ad {a : Nat × List Tk} (hz : zl 0 (.ok a)) (hk : (sgn m f a.1).k ≠ 0) : zl 1 (adv (sgn m f) (.ok a)) := zl_ok (by
  have z := hz a rfl
  have z1 := sgn_nx hk
  omega)
theorem zl_l0 {a : Nat × List Tk} {I : Nat → Nat → Int32} (hz : zl 0 (.ok a)) (hk : (sgn m f a.1).k ≠ 0) (hs : RS m f pg o (.ok a) I) : ∀ b, Except.ok (ε := Nat × Nat) a = .ok b → b.2.length < 1600 := fun b e => by
  cases e
  have z := hz a rfl
  have z1 := sgn_nx hk
  have z2 := hs.1.1.1
  omega
theorem sp58 {P : Pz} {bb : Bool} (hd : 5 ≤ d) (hg : gdP m pg D bb P) (hP : SpX m f pg 59 P o d) : SpX m f pg 58 (chn (sgn m f) opP P) o (d + 1) := by
  intro n h Q I J s hh hs hz q
  simp only [stp_chn] at q
  refine pj_ent (g := h - 1) (by omega) (t := mt_58) rfl rfl (v58_0 (pj_D_le _) I J (hP n (h - 1) _ I J s (by omega) hs hz (fun I1 f1 s1 => kV_i ?_)))
  suffices loop : ∀ r (s : Zt) (I' : Nat → Nat → Int32), r ≤ 1600 → pj_fr eS I I' → RS m f pg o s I' → zl 0 s → (∀ I'', pj_fr eS I I'' → RS m f pg o (stp s (lop (sgn m f) opP P r [])) I'' → Q none (zc n, I'', J)) → pj_R (pj_D (h - 1)) ta mc_58 false Q 6 [some (.ref 31), some (.int (nI (1600 - r))), none] [] (zc n) I' J 0 0 from loop 1600 _ I1 (Nat.le_refl _) f1 s1 (stp_zl hg hz) q
  intro r
  induction r with
  | zero =>
    intro s I' hr hf hs hz q
    exact v58_6 (pj_D_le _) I' J _ (br_t (by decide) (q I' hf (by rw [stp_l0]; exact hs)))
  | succ r ih =>
    intro s I' hr hf hs hz q
    refine v58_6 (pj_D_le _) I' J _ (br_f (nI_ge (b := 1600) (by omega) (by decide)) (f37 (by omega) hs (kI_i ?_)))
    cases s with
    | error e => exact ⟨fun _ => q I' hf hs, fun z => absurd z erN⟩
    | ok a =>
      refine ⟨fun z => absurd rfl z, fun _ => ?_⟩
      have nn : opP (sgn m f a.1) = none → Q none (zc n, I', J) := fun eo => q I' hf (by rw [stp_ln eo]; exact hs)
      have go : ∀ oo, opP (sgn m f a.1) = some oo → ∀ v : Int32, v = ctk (2, oo) → ((sgn m f a.1).k = 1 ∨ (sgn m f a.1).k = 2 ∨ (sgn m f a.1).k = 3) → pj_D (h - 1) 65 [.ref 32] (zc n, I', J) (kV n fun I3 J3 => pj_D (h - 1) 59 [.ref 31] (zc n, I3, J3) (kV n fun I4 J4 => pj_D (h - 1) 53 [.ref 31, .int v] (zc n, I4, J4) (kV n fun I5 J5 => pj_R (pj_D (h - 1)) ta mc_58 false Q 6 [some (.ref 31), some (.int (nI (1600 - (r + 1)) + 1)), none] [] (zc n) I5 J5 0 0))) := by
        intro oo eo v hv k3
        have z1 := zl_ad (m := m) (f := f) hz (by omega)
        refine f65 (by omega) hs (fun b e => by cases e; exact k3) (fun I2 f2 s2 => kV_i ?_)
        refine hP n (h - 1) _ I2 J _ (by omega) s2 (zl_m z1) (fun I3 f3 s3 => kV_i ?_)
        have z2 := stp_zl hg z1
        refine f53 (by omega) (t := (2, oo)) s3 (fun b eb => ⟨hv, zl_lt z2 s3 b eb⟩) (fun I4 f4 s4 => kV_i ?_)
        rw [nI_1, show 1600 - (r + 1) + 1 = 1600 - r by omega]
        exact ih _ I4 (by omega) (pj_fr_tr (pj_fr_tr (pj_fr_tr hf (eS_w f2)) f3) f4) s4 (ste_zl z2) (fun I5 f5 s5 => q I5 f5 (by rw [stp_ls eo]; exact s5))
      refine f62 (by omega) hs (kI_i ?_)
      cases eo : opP (sgn m f a.1) with
      | none => exact ⟨fun _ => nn eo, fun z => absurd rfl z⟩
      | some oo =>
        obtain ⟨k3, ev⟩ := opP_c eo
        exact ⟨fun z => absurd z smN, fun _ => go oo eo _ (by rw [hs.2.2.1.2.2.2.2.2.2 (Or.inr k3)]; exact ev) (Or.inr (Or.inr k3))⟩
theorem sp57 {P : Pz} {bb : Bool} (hd : 5 ≤ d) (hg : gdP m pg D bb P) (hP : SpX m f pg 58 P o d) : SpX m f pg 57 (chn (sgn m f) opS P) o (d + 1) := by
  intro n h Q I J s hh hs hz q
  simp only [stp_chn] at q
  refine pj_ent (g := h - 1) (by omega) (t := mt_57) rfl rfl (v57_0 (pj_D_le _) I J (hP n (h - 1) _ I J s (by omega) hs hz (fun I1 f1 s1 => kV_i ?_)))
  suffices loop : ∀ r (s : Zt) (I' : Nat → Nat → Int32), r ≤ 1600 → pj_fr eS I I' → RS m f pg o s I' → zl 0 s → (∀ I'', pj_fr eS I I'' → RS m f pg o (stp s (lop (sgn m f) opS P r [])) I'' → Q none (zc n, I'', J)) → pj_R (pj_D (h - 1)) ta mc_57 false Q 6 [some (.ref 31), some (.int (nI (1600 - r))), none] [] (zc n) I' J 0 0 from loop 1600 _ I1 (Nat.le_refl _) f1 s1 (stp_zl hg hz) q
  intro r
  induction r with
  | zero =>
    intro s I' hr hf hs hz q
    exact v57_6 (pj_D_le _) I' J _ (br_t (by decide) (q I' hf (by rw [stp_l0]; exact hs)))
  | succ r ih =>
    intro s I' hr hf hs hz q
    refine v57_6 (pj_D_le _) I' J _ (br_f (nI_ge (b := 1600) (by omega) (by decide)) (f37 (by omega) hs (kI_i ?_)))
    cases s with
    | error e => exact ⟨fun _ => q I' hf hs, fun z => absurd z erN⟩
    | ok a =>
      refine ⟨fun z => absurd rfl z, fun _ => ?_⟩
      have nn : opS (sgn m f a.1) = none → Q none (zc n, I', J) := fun eo => q I' hf (by rw [stp_ln eo]; exact hs)
      have go : ∀ oo, opS (sgn m f a.1) = some oo → ∀ v : Int32, v = ctk (2, oo) → ((sgn m f a.1).k = 1 ∨ (sgn m f a.1).k = 2 ∨ (sgn m f a.1).k = 3) → pj_D (h - 1) 65 [.ref 32] (zc n, I', J) (kV n fun I3 J3 => pj_D (h - 1) 58 [.ref 31] (zc n, I3, J3) (kV n fun I4 J4 => pj_D (h - 1) 53 [.ref 31, .int v] (zc n, I4, J4) (kV n fun I5 J5 => pj_R (pj_D (h - 1)) ta mc_57 false Q 6 [some (.ref 31), some (.int (nI (1600 - (r + 1)) + 1)), none] [] (zc n) I5 J5 0 0))) := by
        intro oo eo v hv k3
        have z1 := zl_ad (m := m) (f := f) hz (by omega)
        refine f65 (by omega) hs (fun b e => by cases e; exact k3) (fun I2 f2 s2 => kV_i ?_)
        refine hP n (h - 1) _ I2 J _ (by omega) s2 (zl_m z1) (fun I3 f3 s3 => kV_i ?_)
        have z2 := stp_zl hg z1
        refine f53 (by omega) (t := (2, oo)) s3 (fun b eb => ⟨hv, zl_lt z2 s3 b eb⟩) (fun I4 f4 s4 => kV_i ?_)
        rw [nI_1, show 1600 - (r + 1) + 1 = 1600 - r by omega]
        exact ih _ I4 (by omega) (pj_fr_tr (pj_fr_tr (pj_fr_tr hf (eS_w f2)) f3) f4) s4 (ste_zl z2) (fun I5 f5 s5 => q I5 f5 (by rw [stp_ls eo]; exact s5))
      refine f69 (c := 43) (by omega) (by decide) hs (fun v hv => kI_i ?_)
      rw [hv a rfl]
      cases e1 : isS (sgn m f a.1) 43 with
      | true =>
        have eo : opS (sgn m f a.1) = some 31 := by unfold opS; rw [if_pos e1]
        obtain ⟨k3, ev⟩ := opS_c eo
        exact ⟨fun _ => go _ eo _ (by rw [hs.2.2.1.2.2.2.2.2.2 (Or.inr k3)]; exact ev) (Or.inr (Or.inr k3)), fun z => absurd z (by decide)⟩
      | false =>
        refine ⟨fun z => absurd rfl z, fun _ => f69 (c := 45) (by omega) (by decide) hs (fun v hv => kI_i ?_)⟩
        rw [hv a rfl]
        cases e2 : isS (sgn m f a.1) 45 with
        | true =>
          have eo : opS (sgn m f a.1) = some 32 := by unfold opS; rw [if_neg (by rw [e1]; decide), if_pos e2]
          obtain ⟨k3, ev⟩ := opS_c eo
          exact ⟨fun z => absurd z (by decide), fun _ => go _ eo _ (by rw [hs.2.2.1.2.2.2.2.2.2 (Or.inr k3)]; exact ev) (Or.inr (Or.inr k3))⟩
        | false =>
          have eo : opS (sgn m f a.1) = none := by unfold opS; rw [if_neg (by rw [e1]; decide), if_neg (by rw [e2]; decide)]
          exact ⟨fun _ => nn eo, fun z => absurd rfl z⟩
theorem sp50 {P : Pz} {bb : Bool} (hd : 5 ≤ d) (hg : gdP m pg D bb P) (hP : SpX m f pg 51 P o d) : SpX m f pg 50 (chn (sgn m f) opA P) o (d + 1) := by
  intro n h Q I J s hh hs hz q
  simp only [stp_chn] at q
  refine pj_ent (g := h - 1) (by omega) (t := mt_50) rfl rfl (v50_0 (pj_D_le _) I J (hP n (h - 1) _ I J s (by omega) hs hz (fun I1 f1 s1 => kV_i ?_)))
  suffices loop : ∀ r (s : Zt) (I' : Nat → Nat → Int32), r ≤ 1600 → pj_fr eS I I' → RS m f pg o s I' → zl 0 s → (∀ I'', pj_fr eS I I'' → RS m f pg o (stp s (lop (sgn m f) opA P r [])) I'' → Q none (zc n, I'', J)) → pj_R (pj_D (h - 1)) ta mc_50 false Q 6 [some (.ref 31), some (.int (nI (1600 - r)))] [] (zc n) I' J 0 0 from loop 1600 _ I1 (Nat.le_refl _) f1 s1 (stp_zl hg hz) q
  intro r
  induction r with
  | zero =>
    intro s I' hr hf hs hz q
    exact v50_6 (pj_D_le _) I' J _ (br_t (by decide) (q I' hf (by rw [stp_l0]; exact hs)))
  | succ r ih =>
    intro s I' hr hf hs hz q
    refine v50_6 (pj_D_le _) I' J _ (br_f (nI_ge (b := 1600) (by omega) (by decide)) (f37 (by omega) hs (kI_i ?_)))
    cases s with
    | error e => exact ⟨fun _ => q I' hf hs, fun z => absurd z erN⟩
    | ok a =>
      refine ⟨fun z => absurd rfl z, fun _ => ?_⟩
      have nn : opA (sgn m f a.1) = none → Q none (zc n, I', J) := fun eo => q I' hf (by rw [stp_ln eo]; exact hs)
      have go : ∀ oo, opA (sgn m f a.1) = some oo → ∀ v : Int32, v = ctk (2, oo) → ((sgn m f a.1).k = 1 ∨ (sgn m f a.1).k = 2 ∨ (sgn m f a.1).k = 3) → pj_D (h - 1) 65 [.ref 32] (zc n, I', J) (kV n fun I3 J3 => pj_D (h - 1) 51 [.ref 31] (zc n, I3, J3) (kV n fun I4 J4 => pj_D (h - 1) 53 [.ref 31, .int v] (zc n, I4, J4) (kV n fun I5 J5 => pj_R (pj_D (h - 1)) ta mc_50 false Q 6 [some (.ref 31), some (.int (nI (1600 - (r + 1)) + 1))] [] (zc n) I5 J5 0 0))) := by
        intro oo eo v hv k3
        have z1 := zl_ad (m := m) (f := f) hz (by omega)
        refine f65 (by omega) hs (fun b e => by cases e; exact k3) (fun I2 f2 s2 => kV_i ?_)
        refine hP n (h - 1) _ I2 J _ (by omega) s2 (zl_m z1) (fun I3 f3 s3 => kV_i ?_)
        have z2 := stp_zl hg z1
        refine f53 (by omega) (t := (2, oo)) s3 (fun b eb => ⟨hv, zl_lt z2 s3 b eb⟩) (fun I4 f4 s4 => kV_i ?_)
        rw [nI_1, show 1600 - (r + 1) + 1 = 1600 - r by omega]
        exact ih _ I4 (by omega) (pj_fr_tr (pj_fr_tr (pj_fr_tr hf (eS_w f2)) f3) f4) s4 (ste_zl z2) (fun I5 f5 s5 => q I5 f5 (by rw [stp_ls eo]; exact s5))
      have ew : (I' 32 4 = 17) ↔ own (sgn m f a.1) = some 17 := by rw [hs.2.2.1.2.2.2.2.1]; exact ow_i (k := 17) (by decide)
      rw [ew]
      refine ⟨fun z => nn (by unfold opA; rw [if_neg z]), fun z => go 41 (by unfold opA; rw [if_pos z]) _ (by decide) (Or.inl (own_k z))⟩
theorem sp49 {P : Pz} {bb : Bool} (hd : 5 ≤ d) (hg : gdP m pg D bb P) (hP : SpX m f pg 50 P o d) : SpX m f pg 49 (chn (sgn m f) opO P) o (d + 1) := by
  intro n h Q I J s hh hs hz q
  simp only [stp_chn] at q
  refine pj_ent (g := h - 1) (by omega) (t := mt_49) rfl rfl (v49_0 (pj_D_le _) I J (hP n (h - 1) _ I J s (by omega) hs hz (fun I1 f1 s1 => kV_i ?_)))
  suffices loop : ∀ r (s : Zt) (I' : Nat → Nat → Int32), r ≤ 1600 → pj_fr eS I I' → RS m f pg o s I' → zl 0 s → (∀ I'', pj_fr eS I I'' → RS m f pg o (stp s (lop (sgn m f) opO P r [])) I'' → Q none (zc n, I'', J)) → pj_R (pj_D (h - 1)) ta mc_49 false Q 6 [some (.ref 31), some (.int (nI (1600 - r)))] [] (zc n) I' J 0 0 from loop 1600 _ I1 (Nat.le_refl _) f1 s1 (stp_zl hg hz) q
  intro r
  induction r with
  | zero =>
    intro s I' hr hf hs hz q
    exact v49_6 (pj_D_le _) I' J _ (br_t (by decide) (q I' hf (by rw [stp_l0]; exact hs)))
  | succ r ih =>
    intro s I' hr hf hs hz q
    refine v49_6 (pj_D_le _) I' J _ (br_f (nI_ge (b := 1600) (by omega) (by decide)) (f37 (by omega) hs (kI_i ?_)))
    cases s with
    | error e => exact ⟨fun _ => q I' hf hs, fun z => absurd z erN⟩
    | ok a =>
      refine ⟨fun z => absurd rfl z, fun _ => ?_⟩
      have nn : opO (sgn m f a.1) = none → Q none (zc n, I', J) := fun eo => q I' hf (by rw [stp_ln eo]; exact hs)
      have go : ∀ oo, opO (sgn m f a.1) = some oo → ∀ v : Int32, v = ctk (2, oo) → ((sgn m f a.1).k = 1 ∨ (sgn m f a.1).k = 2 ∨ (sgn m f a.1).k = 3) → pj_D (h - 1) 65 [.ref 32] (zc n, I', J) (kV n fun I3 J3 => pj_D (h - 1) 50 [.ref 31] (zc n, I3, J3) (kV n fun I4 J4 => pj_D (h - 1) 53 [.ref 31, .int v] (zc n, I4, J4) (kV n fun I5 J5 => pj_R (pj_D (h - 1)) ta mc_49 false Q 6 [some (.ref 31), some (.int (nI (1600 - (r + 1)) + 1))] [] (zc n) I5 J5 0 0))) := by
        intro oo eo v hv k3
        have z1 := zl_ad (m := m) (f := f) hz (by omega)
        refine f65 (by omega) hs (fun b e => by cases e; exact k3) (fun I2 f2 s2 => kV_i ?_)
        refine hP n (h - 1) _ I2 J _ (by omega) s2 (zl_m z1) (fun I3 f3 s3 => kV_i ?_)
        have z2 := stp_zl hg z1
        refine f53 (by omega) (t := (2, oo)) s3 (fun b eb => ⟨hv, zl_lt z2 s3 b eb⟩) (fun I4 f4 s4 => kV_i ?_)
        rw [nI_1, show 1600 - (r + 1) + 1 = 1600 - r by omega]
        exact ih _ I4 (by omega) (pj_fr_tr (pj_fr_tr (pj_fr_tr hf (eS_w f2)) f3) f4) s4 (ste_zl z2) (fun I5 f5 s5 => q I5 f5 (by rw [stp_ls eo]; exact s5))
      have ew : (I' 32 4 = 16) ↔ own (sgn m f a.1) = some 16 := by rw [hs.2.2.1.2.2.2.2.1]; exact ow_i (k := 16) (by decide)
      rw [ew]
      refine ⟨fun z => nn (by unfold opO; rw [if_neg z]), fun z => go 42 (by unfold opO; rw [if_pos z]) _ (by decide) (Or.inl (own_k z))⟩
end PRe
