/-! sums and tests: how long, of what kind -/
def TN (n : Nat) (T : Nat → Sg) : Prop := (∀ p, (T p).k ≠ 0 → p < (T p).nx ∧ (T p).nx ≤ n) ∧ ∀ p, (T p).k = 2 → (T p).v ≤ 9999
theorem sgn_TN {n : Nat} {f : Nat → Nat} : TN n (sgn n f) := ⟨fun _ h => sgn_nx h, fun _ h => sgn_2 h⟩
def gdP (n pg d : Nat) (b : Bool) (X : Pz) : Prop := ∀ p c p', X p = .ok (c, p') → p + c.length ≤ p' ∧ p' ≤ n ∧ c ≠ [] ∧ ∀ s : List Bool, s.length + d ≤ 100 → tys pg c s (b :: s)
theorem gdP_m {n pg d d' : Nat} {b : Bool} {X : Pz} (h : d ≤ d') (g : gdP n pg d b X) : gdP n pg d' b X := fun p c p' e =>
  have ⟨a1, a2, a3, a4⟩ := g p c p' e
  ⟨a1, a2, a3, fun s hs => a4 s (by omega)⟩
theorem tys_1 {pg : Nat} {t : Tk} {s s' : List Bool} (h : ty1 pg t s s') : tys pg [t] s s' := ⟨s', h, rfl⟩
theorem ty_op {pg o : Nat} {b b' : Bool} {s : List Bool} (h1 : 31 ≤ o) (h2 : o ≤ 42) (h3 : decide (41 ≤ o) = b) (h4 : decide (38 ≤ o) = b') : ty1 pg (2, o) (b :: b :: s) (b' :: s) := Or.inr (Or.inr (Or.inl ⟨rfl, h1, h2, s, by rw [← h3], by rw [← h4]⟩))
section PGa
variable {T : Nat → Sg} {n pg : Nat}
theorem exS_n {c p q : Nat} (hT : TN n T) (h : exS T c p = .ok q) : p < q ∧ q ≤ n := by
  obtain ⟨h1, rfl⟩ := exS_ok h
  exact hT.1 p (by rw [(isS_k h1).1]; decide)
theorem opn_ok {α : Type} {k p : Nat} {g : Rs α} {y : α} (h : opn T k p g = .ok y) : g = .ok y := by
  cases k with
  | zero => cases h
  | succ k => exact h
theorem lop_gd {d : Nat} {b : Bool} {op : Sg → Option Nat} {P : Pz} (hT : TN n T) (ho : ∀ t o, op t = some o → t.k ≠ 0 ∧ 31 ≤ o ∧ o ≤ 42 ∧ decide (41 ≤ o) = b ∧ decide (38 ≤ o) = b) (hP : gdP n pg d b P) : ∀ (r : Nat) (c : List Tk) (p p0 : Nat) (c' : List Tk) (p' : Nat), p0 + c.length ≤ p → p ≤ n → c ≠ [] → (∀ s : List Bool, s.length + (d + 1) ≤ 100 → tys pg c s (b :: s)) → lop T op P r c p = .ok (c', p') → p0 + c'.length ≤ p' ∧ p' ≤ n ∧ c' ≠ [] ∧ ∀ s : List Bool, s.length + (d + 1) ≤ 100 → tys pg c' s (b :: s) := by
  intro r
  induction r with
  | zero =>
    intro c p p0 c' p' h1 h2 h3 h4 e
    have e : Except.ok (ε := Nat × Nat) (c, p) = .ok (c', p') := e
    cases e
    exact ⟨h1, h2, h3, h4⟩
  | succ r ih =>
    intro c p p0 c' p' h1 h2 h3 h4 e
    unfold lop at e
    cases eo : op (T p) with
    | none =>
      rw [eo] at e
      cases e
      exact ⟨h1, h2, h3, h4⟩
    | some o =>
      rw [eo] at e
      obtain ⟨k0, o1, o2, o3, o4⟩ := ho _ _ eo
      obtain ⟨⟨x, px⟩, e1, e2⟩ := bd_ok e
      obtain ⟨a1, a2, a3, a4⟩ := hP _ _ _ e1
      have tn := hT.1 p k0
      refine ih _ _ p0 c' p' ?_ a2 ?_ (fun s hs => ?_) e2
      · simp only [List.length_append, List.length_cons, List.length_nil]
        omega
      · intro z
        have := congrArg List.length z
        simp at this
      · refine tys_app (h4 s hs) (tys_app (a4 (b :: s) ?_) (tys_1 (ty_op o1 o2 o3 o4)))
        simp only [List.length_cons]
        omega
theorem chn_gd {d : Nat} {b : Bool} {op : Sg → Option Nat} {P : Pz} (hT : TN n T) (ho : ∀ t o, op t = some o → t.k ≠ 0 ∧ 31 ≤ o ∧ o ≤ 42 ∧ decide (41 ≤ o) = b ∧ decide (38 ≤ o) = b) (hP : gdP n pg d b P) : gdP n pg (d + 1) b (chn T op P) := by
  intro p c p' e
  obtain ⟨⟨x, px⟩, e1, e2⟩ := bd_ok e
  obtain ⟨a1, a2, a3, a4⟩ := hP _ _ _ e1
  exact lop_gd hT ho hP 1600 x px p c p' a1 a2 a3 (fun s hs => a4 s (by omega)) e2
theorem opP_o {t : Sg} {o : Nat} (h : opP t = some o) : t.k ≠ 0 ∧ 31 ≤ o ∧ o ≤ 42 ∧ decide (41 ≤ o) = false ∧ decide (38 ≤ o) = false := by
  unfold opP at h
  split at h
  · cases h; rename_i z; exact ⟨by rw [(isS_k z).1]; decide, by decide, by decide, by decide, by decide⟩
  · split at h
    · cases h; rename_i z; exact ⟨by rw [(isS_k z).1]; decide, by decide, by decide, by decide, by decide⟩
    · split at h
      · cases h; rename_i z; exact ⟨by rw [(isS_k z).1]; decide, by decide, by decide, by decide, by decide⟩
      · cases h
theorem opS_o {t : Sg} {o : Nat} (h : opS t = some o) : t.k ≠ 0 ∧ 31 ≤ o ∧ o ≤ 42 ∧ decide (41 ≤ o) = false ∧ decide (38 ≤ o) = false := by
  unfold opS at h
  split at h
  · cases h; rename_i z; exact ⟨by rw [(isS_k z).1]; decide, by decide, by decide, by decide, by decide⟩
  · split at h
    · cases h; rename_i z; exact ⟨by rw [(isS_k z).1]; decide, by decide, by decide, by decide, by decide⟩
    · cases h
theorem opC_o {t : Sg} {o : Nat} (h : opC t = some o) : t.k ≠ 0 ∧ 31 ≤ o ∧ o ≤ 42 ∧ decide (41 ≤ o) = false ∧ decide (38 ≤ o) = true := by
  unfold opC at h
  split at h
  · cases h; rename_i z; exact ⟨by rw [(isS_k z).1]; decide, by decide, by decide, by decide, by decide⟩
  · split at h
    · cases h; rename_i z; exact ⟨by rw [(isS_k z).1]; decide, by decide, by decide, by decide, by decide⟩
    · split at h
      · cases h; rename_i z; exact ⟨by rw [(isS_k z).1]; decide, by decide, by decide, by decide, by decide⟩
      · cases h
theorem opA_o {t : Sg} {o : Nat} (h : opA t = some o) : t.k ≠ 0 ∧ 31 ≤ o ∧ o ≤ 42 ∧ decide (41 ≤ o) = true ∧ decide (38 ≤ o) = true := by
  unfold opA at h
  split at h
  · cases h; rename_i z; exact ⟨by rw [own_k z]; decide, by decide, by decide, by decide, by decide⟩
  · cases h
theorem opO_o {t : Sg} {o : Nat} (h : opO t = some o) : t.k ≠ 0 ∧ 31 ≤ o ∧ o ≤ 42 ∧ decide (41 ≤ o) = true ∧ decide (38 ≤ o) = true := by
  unfold opO at h
  split at h
  · cases h; rename_i z; exact ⟨by rw [own_k z]; decide, by decide, by decide, by decide, by decide⟩
  · cases h
theorem app_ne {α : Type} {a b : List α} {x : α} : a ++ (b ++ [x]) ≠ [] := fun z => by
  have := congrArg List.length z
  simp at this
theorem chz_gd {D k o : Nat} {S : Pz} (hT : TN n T) (o1 : o = 36 ∨ o = 37) (hS : gdP n pg D false S) : gdP n pg (D + 2) false (chz T k S (2, o)) := by
  intro p c p' e
  unfold chz at e
  cases e0 : isS (T p) 40 with
  | false => rw [e0] at e; cases e
  | true =>
    rw [e0] at e
    have e := opn_ok e
    obtain ⟨⟨a, pa⟩, e1, e⟩ := bd_ok e
    obtain ⟨q1, e2, e⟩ := bd_ok e
    obtain ⟨⟨b, pb⟩, e3, e⟩ := bd_ok e
    obtain ⟨q2, e4, e⟩ := bd_ok e
    cases e
    obtain ⟨a1, a2, a3, a4⟩ := hS _ _ _ e1
    obtain ⟨b1, b2, b3, b4⟩ := hS _ _ _ e3
    have x2 := exS_n hT e2
    have x4 := exS_n hT e4
    have tn := hT.1 p (by rw [(isS_k e0).1]; decide)
    simp only at *
    refine ⟨?_, x4.2, ?_, fun s hs => ?_⟩
    · simp only [List.length_append, List.length_cons, List.length_nil]
      omega
    · rw [List.append_assoc]; exact app_ne
    · rw [List.append_assoc]
      refine tys_app (a4 s (by omega)) (tys_app (b4 (false :: s) (by simp only [List.length_cons]; omega)) (tys_1 (ty_op (by omega) (by omega) ?_ ?_)))
      · rcases o1 with rfl | rfl <;> decide
      · rcases o1 with rfl | rfl <;> decide
theorem iff_gd {D k : Nat} {S Te : Pz} (hT : TN n T) (hS : gdP n pg D false S) (hE : gdP n pg D true Te) : gdP n pg (D + 2) false (iff T k S Te) := by
  intro p c p' e
  unfold iff at e
  cases e0 : isS (T p) 40 with
  | false => rw [e0] at e; cases e
  | true =>
    rw [e0] at e
    have e := opn_ok e
    obtain ⟨⟨g, pg'⟩, e5, e⟩ := bd_ok e
    obtain ⟨q0, e6, e⟩ := bd_ok e
    obtain ⟨⟨a, pa⟩, e1, e⟩ := bd_ok e
    obtain ⟨q1, e2, e⟩ := bd_ok e
    obtain ⟨⟨b, pb⟩, e3, e⟩ := bd_ok e
    obtain ⟨q2, e4, e⟩ := bd_ok e
    cases e
    obtain ⟨g1, g2, g3, g4⟩ := hE _ _ _ e5
    obtain ⟨a1, a2, a3, a4⟩ := hS _ _ _ e1
    obtain ⟨b1, b2, b3, b4⟩ := hS _ _ _ e3
    have x6 := exS_n hT e6
    have x2 := exS_n hT e2
    have x4 := exS_n hT e4
    have tn := hT.1 p (by rw [(isS_k e0).1]; decide)
    simp only at *
    refine ⟨?_, x4.2, ?_, fun s hs => ?_⟩
    · simp only [List.length_append, List.length_cons, List.length_nil]
      omega
    · intro z
      have := congrArg List.length z
      simp at this
    · exact tys_app (g4 s (by omega)) (tys_app (a4 (true :: s) (by simp only [List.length_cons]; omega)) (tys_app (b4 (false :: true :: s) (by simp only [List.length_cons]; omega)) (tys_1 (Or.inr (Or.inr (Or.inr (Or.inr (Or.inl ⟨rfl, s, rfl, rfl⟩))))))))
theorem par_gd {D k : Nat} {S Te : Pz} (hT : TN n T) (hS : gdP n pg D false S) (hE : gdP n pg D true Te) : gdP n pg (D + 2) false (par T pg k S Te) := by
  intro p c p' e
  unfold par at e
  split at e
  · rename_i h2
    cases e
    have tn := hT.1 p (by rw [h2]; decide)
    have tv := hT.2 p h2
    exact ⟨tn.1, tn.2, by simp, fun s hs => tys_1 (Or.inl ⟨rfl, tv, by omega, rfl⟩)⟩
  · split at e
    · rename_i h3
      have e := opn_ok e
      obtain ⟨⟨a, pa⟩, e1, e⟩ := bd_ok e
      obtain ⟨q1, e2, e⟩ := bd_ok e
      cases e
      obtain ⟨a1, a2, a3, a4⟩ := hS _ _ _ e1
      have x2 := exS_n hT e2
      have tn := hT.1 p (by rw [(isS_k h3).1]; decide)
      simp only at *
      exact ⟨by omega, x2.2, a3, fun s hs => a4 s (by omega)⟩
    · split at e
      · rename_i h4
        have tn := hT.1 p (by rw [own_k h4]; decide)
        obtain ⟨a1, a2⟩ := chz_gd hT (Or.inl rfl) hS _ _ _ e
        exact ⟨by omega, a2⟩
      · split at e
        · rename_i h4
          have tn := hT.1 p (by rw [own_k h4]; decide)
          obtain ⟨a1, a2⟩ := chz_gd hT (Or.inr rfl) hS _ _ _ e
          exact ⟨by omega, a2⟩
        · split at e
          · rename_i h4
            have tn := hT.1 p (by rw [own_k h4]; decide)
            obtain ⟨a1, a2⟩ := iff_gd hT hS hE _ _ _ e
            exact ⟨by omega, a2⟩
          · cases ew : vwd pg (own (T p)) with
            | none => rw [ew] at e; cases e
            | some w =>
              rw [ew] at e
              cases e
              obtain ⟨g1, x, g2, -⟩ := vwd_al ew
              have tn := hT.1 p (by rw [own_k g2]; decide)
              exact ⟨tn.1, tn.2, by simp, fun s hs => tys_1 (Or.inr (Or.inl ⟨rfl, g1, by omega, rfl⟩))⟩
theorem cpr_gd {D : Nat} {S : Pz} (hT : TN n T) (hS : gdP n pg D false S) : gdP n pg (D + 1) true (cpr T S) := by
  intro p c p' e
  obtain ⟨⟨a, pa⟩, e1, e⟩ := bd_ok e
  simp only at e
  cases eo : opC (T pa) with
  | none => rw [eo] at e; cases e
  | some o =>
    rw [eo] at e
    obtain ⟨⟨b, pb⟩, e3, e⟩ := bd_ok e
    cases e
    obtain ⟨k0, o1, o2, o3, o4⟩ := opC_o eo
    obtain ⟨a1, a2, a3, a4⟩ := hS _ _ _ e1
    obtain ⟨b1, b2, b3, b4⟩ := hS _ _ _ e3
    have tn := hT.1 pa k0
    simp only at *
    refine ⟨?_, b2, app_ne, fun s hs => ?_⟩
    · simp only [List.length_append, List.length_cons, List.length_nil]
      omega
    · exact tys_app (a4 s (by omega)) (tys_app (b4 (false :: s) (by simp only [List.length_cons]; omega)) (tys_1 (ty_op o1 o2 o3 o4)))
theorem fct_gd {D k : Nat} {S Te F : Pz} (hT : TN n T) (hS : gdP n pg D false S) (hE : gdP n pg D true Te) (hF : gdP n pg D true F) : gdP n pg (D + 1) true (fct T k S Te F) := by
  intro p c p' e
  unfold fct at e
  split at e
  · rename_i h4
    have e := opn_ok e
    obtain ⟨⟨a, pa⟩, e1, e⟩ := bd_ok e
    cases e
    obtain ⟨a1, a2, a3, a4⟩ := hF _ _ _ e1
    have tn := hT.1 p (by rw [own_k h4]; decide)
    simp only at *
    refine ⟨?_, a2, ?_, fun s hs => ?_⟩
    · simp only [List.length_append, List.length_cons, List.length_nil]
      omega
    · intro z
      have := congrArg List.length z
      simp at this
    · exact tys_app (a4 s (by omega)) (tys_1 (Or.inr (Or.inr (Or.inr (Or.inl ⟨rfl, s, rfl, rfl⟩)))))
  · split at e
    · rename_i h3
      have e := opn_ok e
      obtain ⟨⟨a, pa⟩, e1, e⟩ := bd_ok e
      obtain ⟨q1, e2, e⟩ := bd_ok e
      cases e
      obtain ⟨a1, a2, a3, a4⟩ := hE _ _ _ e1
      have x2 := exS_n hT e2
      have tn := hT.1 p (by rw [(isS_k h3).1]; decide)
      simp only at *
      exact ⟨by omega, x2.2, a3, fun s hs => a4 s (by omega)⟩
    · split at e
      · rename_i h4
        cases e
        have tn := hT.1 p (by rw [own_k h4]; decide)
        exact ⟨tn.1, tn.2, by simp, fun s hs => tys_1 (Or.inr (Or.inr (Or.inr (Or.inr (Or.inr ⟨rfl, by omega, rfl⟩)))))⟩
      · exact cpr_gd hT hS _ _ _ e
theorem lvN_gd {D k : Nat} {lo : Pz × Pz × Pz} (hT : TN n T) (h1 : gdP n pg D false lo.1) (h2 : gdP n pg D true lo.2.1) (h3 : gdP n pg D true lo.2.2) : gdP n pg (D + 7) false (lvN T pg k lo).1 ∧ gdP n pg (D + 7) true (lvN T pg k lo).2.1 ∧ gdP n pg (D + 7) true (lvN T pg k lo).2.2 := by
  have s := chn_gd hT (fun _ _ h => opS_o h) (chn_gd hT (fun _ _ h => opP_o h) (par_gd (k := k) hT h1 h2))
  have f := fct_gd (k := k) hT s (gdP_m (by omega) h2) (gdP_m (by omega) h3)
  exact ⟨gdP_m (by omega) s, gdP_m (by omega) (chn_gd hT (fun _ _ h => opO_o h) (chn_gd hT (fun _ _ h => opA_o h) f)), gdP_m (by omega) f⟩
theorem lev_gd (hT : TN n T) : ∀ (k : Nat), gdP n pg (7 * (k + 1)) false (lev T pg k).1 ∧ gdP n pg (7 * (k + 1)) true (lev T pg k).2.1 ∧ gdP n pg (7 * (k + 1)) true (lev T pg k).2.2
  | 0 => by
    have z : ∀ b, gdP n pg 0 b dumz := fun b p c p' e => by cases e
    exact lvN_gd (D := 0) hT (z _) (z _) (z _)
  | k + 1 => by
    have ih := lev_gd hT k
    have t := lvN_gd (D := 7 * (k + 1)) (k := k + 1) hT ih.1 ih.2.1 ih.2.2
    rw [show 7 * (k + 1 + 1) = 7 * (k + 1) + 7 by omega]
    exact t
end PGa
