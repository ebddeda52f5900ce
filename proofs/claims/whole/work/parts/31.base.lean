/-! specifications of methods: by level -/
def pj_D (h : Nat) : pj_CT := fun k as σ K => ∀ d, h ≤ d → pj_C tm ta d k as σ K
theorem pj_D_le (h : Nat) : pj_le (pj_D h) (pj_D h) := fun k as σ K K' f q d hd => (pj_C_le tm ta d).1 k as σ K K' f (q d hd)
theorem pj_D_C {h d : Nat} (hd : h ≤ d) : pj_le (pj_D h) (pj_C tm ta d) := fun k as σ K K' f q => (pj_C_le tm ta d).1 k as σ K K' f (q d hd)
theorem pj_D_up {h h' k : Nat} {as : List Value} {σ : pj_S} {K : pj_K} (hh : h ≤ h') (q : pj_D h k as σ K) : pj_D h' k as σ K := fun d hd => q d (Nat.le_trans hh hd)
theorem pj_D_K {h k : Nat} {as : List Value} {σ : pj_S} {K K' : pj_K} (q : pj_D h k as σ K) (f : ∀ r s, K r s → K' r s) : pj_D h k as σ K' := pj_D_le h k as σ K K' f q
/-- into a method -/
theorem pj_ent {h g k : Nat} {as : List Value} {σ : pj_S} {K : pj_K} {t : pj_T} (hh : g + 1 ≤ h) (ht : tm k = some t) (hle : Nat.ble (pj_en as).length t.1.2.2.1 = true)
    (body : pj_R (pj_D g) ta t.2.2 t.2.1.2 K 0 (pj_pad t.1.2.2.1 (pj_en as)) [] σ.1 σ.2.1 σ.2.2 (ta k).1 (ta k).2) : pj_D h k as σ K := by
  intro d hd
  obtain ⟨d, rfl⟩ : ∃ q, d = q + 1 := ⟨d - 1, by omega⟩
  unfold pj_C
  rw [ht]
  exact pj_cT hle (pj_R_m (pj_D_C (by omega)) (pj_C_le tm ta d).1 (fun _ _ q => q) body)
theorem kI_i {n : Nat} {K : Int32 → (Nat → Nat → Int32) → (Nat → Nat → Int64) → Prop} {v : Int32} {I : Nat → Nat → Int32} {J : Nat → Nat → Int64} (h : K v I J) : kI n K (some (.int v)) (zc n, I, J) := ⟨v, I, J, rfl, rfl, h⟩
theorem kL_i {n : Nat} {K : Int64 → (Nat → Nat → Int32) → (Nat → Nat → Int64) → Prop} {v : Int64} {I : Nat → Nat → Int32} {J : Nat → Nat → Int64} (h : K v I J) : kL n K (some (.long v)) (zc n, I, J) := ⟨v, I, J, rfl, rfl, h⟩
theorem kV_i {n : Nat} {K : (Nat → Nat → Int32) → (Nat → Nat → Int64) → Prop} {I : Nat → Nat → Int32} {J : Nat → Nat → Int64} (h : K I J) : kV n K none (zc n, I, J) := ⟨I, J, rfl, rfl, h⟩
/-- the law out of its own walk -/
theorem pj_lawD {L : Nat} {xs : Nat → Int32} {h : Nat} (q : pj_R (pj_D h) ta mc_0 true (fun r _ => r = some (.int 1)) 0 [some (.ref 0), none, none, none] [] (pj_Z0 L) (pj_I0 xs) (fun _ _ => 0) 317 27802) : pj_R (pj_C tm ta h) ta mc_0 true (fun r _ => r = some (.int 1)) 0 [some (.ref 0), none, none, none] [] (pj_Z0 L) (pj_I0 xs) (fun _ _ => 0) 317 27802 :=
  pj_R_m (pj_D_C (Nat.le_refl h)) (pj_C_le tm ta h).1 (fun _ _ q => q) q
/-- reading behind writing -/
theorem pj_u_n {α : Type} {f : Nat → Nat → α} {a b k j : Nat} {v : α} (h : b ≠ a) : pj_u f a k v b j = f b j := if_neg h
theorem pj_u_j {α : Type} {f : Nat → Nat → α} {a b k j : Nat} {v : α} (h : j ≠ k) : pj_u f a k v b j = f b j := by
  unfold pj_u
  by_cases q : b = a
  · rw [if_pos q, if_neg h]
  · rw [if_neg q]
theorem pj_u_e {α : Type} {f : Nat → Nat → α} {a k : Nat} {v : α} : pj_u f a k v a k = v := pj_u_same f a k v
