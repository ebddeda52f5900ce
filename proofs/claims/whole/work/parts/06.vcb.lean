/-! what the conditions of methods are written with -/
theorem pj_cT {b : Bool} {K : Prop} (hb : b = true) (h : K) : pj_c b K := by subst hb; exact h
theorem pj_in (k n : Nat) (h : (Nat.blt k n && Nat.blt n 1000000) = true) : vp_in (OfNat.ofNat k : Int32) n := by
  rw [Bool.and_eq_true, Nat.blt_eq, Nat.blt_eq] at h
  exact vp_in_nI (n := k) h.1 (by omega)
def kI (n : Nat) (K : Int32 → (Nat → Nat → Int32) → (Nat → Nat → Int64) → Prop) : pj_K := fun r s => ∃ v I J, r = some (.int v) ∧ s = (zc n, I, J) ∧ K v I J
def kL (n : Nat) (K : Int64 → (Nat → Nat → Int32) → (Nat → Nat → Int64) → Prop) : pj_K := fun r s => ∃ v I J, r = some (.long v) ∧ s = (zc n, I, J) ∧ K v I J
def kV (n : Nat) (K : (Nat → Nat → Int32) → (Nat → Nat → Int64) → Prop) : pj_K := fun r s => ∃ I J, r = none ∧ s = (zc n, I, J) ∧ K I J
theorem pj_kI {C : pj_CT} (hC : pj_le C C) {n m : Nat} {args : List Value} {σ : pj_S} {K' : Int32 → (Nat → Nat → Int32) → (Nat → Nat → Int64) → Prop} {K : pj_K} (h : C m args σ (kI n K')) (f : ∀ v I J, K' v I J → K (some (.int v)) (zc n, I, J)) : C m args σ K :=
  hC m args σ _ _ (fun r s q => by obtain ⟨v, I, J, rfl, rfl, q⟩ := q; exact f v I J q) h
theorem pj_kL {C : pj_CT} (hC : pj_le C C) {n m : Nat} {args : List Value} {σ : pj_S} {K' : Int64 → (Nat → Nat → Int32) → (Nat → Nat → Int64) → Prop} {K : pj_K} (h : C m args σ (kL n K')) (f : ∀ v I J, K' v I J → K (some (.long v)) (zc n, I, J)) : C m args σ K :=
  hC m args σ _ _ (fun r s q => by obtain ⟨v, I, J, rfl, rfl, q⟩ := q; exact f v I J q) h
theorem pj_kV {C : pj_CT} (hC : pj_le C C) {n m : Nat} {args : List Value} {σ : pj_S} {K' : (Nat → Nat → Int32) → (Nat → Nat → Int64) → Prop} {K : pj_K} (h : C m args σ (kV n K')) (f : ∀ I J, K' I J → K none (zc n, I, J)) : C m args σ K :=
  hC m args σ _ _ (fun r s q => by obtain ⟨I, J, rfl, rfl, q⟩ := q; exact f I J q) h
