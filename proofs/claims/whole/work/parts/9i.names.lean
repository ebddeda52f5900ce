/-! names: no two alike -/
def vC : Nat → List Nat → Nat
  | _, [] => 0
  | m, x :: r => x * 32 ^ (m - 1) + vC (m - 1) r
theorem vC_f : ∀ {l : List Nat} {m a : Nat}, l.length ≤ m → l.foldl (fun x y => 32 * x + y) a * 32 ^ (m - l.length) = a * 32 ^ m + vC m l
  | [], m, a, _ => by simp [vC]
  | x :: r, m, a, h => by
    obtain ⟨m, rfl⟩ : ∃ k, m = k + 1 := ⟨m - 1, by simp at h; omega⟩
    simp only [List.length_cons] at h
    show r.foldl _ (32 * a + x) * 32 ^ (m + 1 - (r.length + 1)) = a * 32 ^ (m + 1) + (x * 32 ^ (m + 1 - 1) + vC (m + 1 - 1) r)
    rw [show m + 1 - (r.length + 1) = m - r.length by omega, vC_f (by omega), Nat.add_sub_cancel, Nat.pow_succ, Nat.add_mul, Nat.mul_comm 32 a, Nat.mul_assoc, Nat.mul_comm 32 (32 ^ m), Nat.add_assoc]
theorem vC_lt : ∀ {l : List Nat} {m : Nat}, l.length ≤ m → (∀ x, x ∈ l → 1 ≤ x ∧ x ≤ 26) → vC m l < 32 ^ m
  | [], m, _, _ => Nat.pow_pos (by decide)
  | x :: r, m, h, hx => by
    obtain ⟨m, rfl⟩ : ∃ k, m = k + 1 := ⟨m - 1, by simp at h; omega⟩
    simp only [List.length_cons] at h
    have ih := vC_lt (l := r) (m := m) (by omega) (fun y hy => hx y (List.mem_cons_of_mem _ hy))
    have x1 := hx x List.mem_cons_self
    show x * 32 ^ (m + 1 - 1) + vC (m + 1 - 1) r < 32 ^ (m + 1)
    rw [Nat.add_sub_cancel, Nat.pow_succ]
    have : x * 32 ^ m ≤ 26 * 32 ^ m := Nat.mul_le_mul_right _ x1.2
    omega
theorem vC_inj : ∀ {a b : List Nat} {m : Nat}, a.length ≤ m → b.length ≤ m → (∀ x, x ∈ a → 1 ≤ x ∧ x ≤ 26) → (∀ x, x ∈ b → 1 ≤ x ∧ x ≤ 26) → vC m a = vC m b → a = b
  | [], [], _, _, _, _, _, _ => rfl
  | [], y :: s, m, h1, h2, hx, hy, e => by
    have y1 := hy y List.mem_cons_self
    have e : 0 = y * 32 ^ (m - 1) + vC (m - 1) s := e
    have : 0 < y * 32 ^ (m - 1) := Nat.mul_pos (by omega) (Nat.pow_pos (by decide))
    omega
  | x :: r, [], m, h1, h2, hx, hy, e => by
    have x1 := hx x List.mem_cons_self
    have e : x * 32 ^ (m - 1) + vC (m - 1) r = 0 := e
    have : 0 < x * 32 ^ (m - 1) := Nat.mul_pos (by omega) (Nat.pow_pos (by decide))
    omega
  | x :: r, y :: s, m, h1, h2, hx, hy, e => by
    simp only [List.length_cons] at h1 h2
    have r1 := vC_lt (l := r) (m := m - 1) (by omega) (fun z hz => hx z (List.mem_cons_of_mem _ hz))
    have s1 := vC_lt (l := s) (m := m - 1) (by omega) (fun z hz => hy z (List.mem_cons_of_mem _ hz))
    have e : x * 32 ^ (m - 1) + vC (m - 1) r = y * 32 ^ (m - 1) + vC (m - 1) s := e
    have d : ∀ z w : Nat, w < 32 ^ (m - 1) → (z * 32 ^ (m - 1) + w) / 32 ^ (m - 1) = z := fun z w hw => by
      rw [Nat.add_comm, Nat.add_mul_div_right _ _ (Nat.pow_pos (by decide)), Nat.div_eq_of_lt hw, Nat.zero_add]
    have exy : x = y := by
      have : (x * 32 ^ (m - 1) + vC (m - 1) r) / 32 ^ (m - 1) = (y * 32 ^ (m - 1) + vC (m - 1) s) / 32 ^ (m - 1) := congrArg (fun t => t / 32 ^ (m - 1)) e
      rw [d x _ r1, d y _ s1] at this
      exact this
    subst exy
    rw [vC_inj (by omega) (by omega) (fun z hz => hx z (List.mem_cons_of_mem _ hz)) (fun z hz => hy z (List.mem_cons_of_mem _ hz)) (show vC (m - 1) r = vC (m - 1) s by omega)]
theorem nmC_v {l : List Nat} (h : nmV l) : nmC l = nI (vC 6 l) ∧ vC 6 l < 2 ^ 31 := by
  have t := vC_f (l := l) (m := 6) (a := 0) h.2.1
  have b := vC_lt (l := l) (m := 6) h.2.1 h.2.2
  rw [Nat.zero_mul, Nat.zero_add] at t
  exact ⟨by unfold nmC; rw [t], Nat.lt_trans b (by decide)⟩
theorem nmC_inj {a b : List Nat} (ha : nmV a) (hb : nmV b) : nmC a = nmC b ↔ a = b := by
  refine ⟨fun e => ?_, fun e => by rw [e]⟩
  obtain ⟨a1, a2⟩ := nmC_v ha
  obtain ⟨b1, b2⟩ := nmC_v hb
  rw [a1, b1, nI_eq a2 b2] at e
  exact vC_inj ha.2.1 hb.2.1 ha.2.2 hb.2.2 e
theorem nmC_0 {a : List Nat} (ha : nmV a) : nmC a ≠ 0 := fun e => by
  obtain ⟨a1, a2⟩ := nmC_v ha
  rw [a1] at e
  have e := (nI_eq (b := 0) a2 (by decide)).mp e
  clear a1 a2
  cases a with
  | nil => exact absurd ha.1 (by decide)
  | cons x r =>
    have x1 := ha.2.2 x List.mem_cons_self
    unfold vC at e
    exact absurd e (Nat.ne_of_gt (Nat.add_pos_left (Nat.mul_pos x1.1 (Nat.pow_pos (by decide))) _))
def vM : List Nat → Nat
  | [] => 0
  | x :: r => 256 * vM r + (96 + x)
theorem vM_f (l : List Nat) : l.foldl (fun x y => 256 * x + (96 + y)) 0 = vM l.reverse := by
  rw [List.foldl_eq_foldr_reverse]
  generalize l.reverse = r
  induction r with
  | nil => rfl
  | cons x r ih => show 256 * _ + (96 + x) = 256 * vM r + (96 + x); rw [ih]
theorem vM_inj : ∀ {a b : List Nat}, (∀ x, x ∈ a → 1 ≤ x ∧ x ≤ 26) → (∀ x, x ∈ b → 1 ≤ x ∧ x ≤ 26) → vM a = vM b → a = b
  | [], [], _, _, _ => rfl
  | [], y :: s, _, _, e => by
    have e : 0 = 256 * vM s + (96 + y) := e
    omega
  | x :: r, [], _, _, e => by
    have e : 256 * vM r + (96 + x) = 0 := e
    omega
  | x :: r, y :: s, hx, hy, e => by
    have x1 := hx x List.mem_cons_self
    have y1 := hy y List.mem_cons_self
    have e : 256 * vM r + (96 + x) = 256 * vM s + (96 + y) := e
    rw [vM_inj (fun z hz => hx z (List.mem_cons_of_mem _ hz)) (fun z hz => hy z (List.mem_cons_of_mem _ hz)) (show vM r = vM s by omega), show x = y by omega]
theorem vM_lt : ∀ {l : List Nat}, (∀ x, x ∈ l → 1 ≤ x ∧ x ≤ 26) → vM l < 256 ^ l.length
  | [], _ => by decide
  | x :: r, h => by
    have ih := vM_lt (fun z hz => h z (List.mem_cons_of_mem _ hz))
    have x1 := h x List.mem_cons_self
    show 256 * vM r + (96 + x) < 256 ^ (r.length + 1)
    rw [Nat.pow_succ]
    omega
theorem nmM_v {l : List Nat} (h : nmV l) : nmM l = lN (vM l.reverse) ∧ vM l.reverse < 2 ^ 63 := by
  refine ⟨by unfold nmM; rw [vM_f], ?_⟩
  have := vM_lt (l := l.reverse) (fun x hx => h.2.2 x (List.mem_reverse.mp hx))
  rw [List.length_reverse] at this
  exact Nat.lt_of_lt_of_le this (Nat.le_trans (Nat.pow_le_pow_right (by decide) h.2.1) (by decide))
theorem nmM_inj {a b : List Nat} (ha : nmV a) (hb : nmV b) : nmM a = nmM b ↔ a = b := by
  refine ⟨fun e => ?_, fun e => by rw [e]⟩
  obtain ⟨a1, a2⟩ := nmM_v ha
  obtain ⟨b1, b2⟩ := nmM_v hb
  rw [a1, b1, ← Int64.toInt_inj, lN_tI a2, lN_tI b2] at e
  have := vM_inj (fun x hx => ha.2.2 x (List.mem_reverse.mp hx)) (fun x hx => hb.2.2 x (List.mem_reverse.mp hx)) (Int.ofNat_inj.mp e)
  exact List.reverse_inj.mp this
theorem oww_v : ∀ k, k < 22 → nmV (oww k) := by
  unfold nmV
  decide +kernel
theorem oww_inj : ∀ j k, j < 22 → k < 22 → oww j = oww k → j = k := by
  have : ∀ j, j < 22 → ∀ k, k < 22 → oww j = oww k → j = k := by decide +kernel
  exact fun j k hj hk => this j hj k hk
theorem owC_e : ∀ k, k < 22 → owC k = nmC (oww k) := by decide +kernel
theorem own_w {t : Sg} {k : Nat} (hk : k < 22) : own t = some k ↔ t.k = 1 ∧ t.ls = oww k := by
  unfold own
  by_cases h : t.k = 1
  · rw [if_pos h]
    refine ⟨fun e => ?_, fun e => ?_⟩
    · exact ⟨h, (of_decide_eq_true (ff_some e).2.2).symm⟩
    · cases e2 : ff (fun j => decide (oww j = t.ls)) 22 0 with
      | none => exact absurd e.2.symm (of_decide_eq_false (ff_none e2 k (Nat.zero_le _) (by omega)))
      | some j =>
        have j1 := ff_some e2
        have j2 := of_decide_eq_true j1.2.2
        rw [oww_inj j k (by omega) hk (j2.trans e.2)]
  · rw [if_neg h]
    exact ⟨fun e => (by cases e), fun e => absurd e.1 h⟩
theorem own_b {t : Sg} {k : Nat} (h : own t = some k) : k < 22 := by
  unfold own at h
  split at h
  · have := ff_some h; omega
  · cases h
