/-! the picture of the class: one byte more -/
section PWr
variable {n h : Nat} {Q : pj_K} {I : Nat → Nat → Int32} {J : Nat → Nat → Int64}
/-- Picture.write -/
theorem s30 (hh : 1 ≤ h) {m b : Nat} (hm : I 272 2 = nI m) (hm2 : m < 61) (q : Q none (zc n, pj_u (pj_u I 273 m (nI b)) 272 2 (nI (m + 1)), J)) : pj_D h 30 [.ref 272, .int (nI b)] (zc n, I, J) Q := by
  refine pj_ent (g := 0) hh (t := mt_30) rfl rfl (v30_0 (pj_D_le 0) I J _ ?_)
  rw [hm, nI_clamp (by omega), nI_1]
  exact pk_le 61 m (fun c => by omega) (fun c => ⟨pk_in m 61 hm2, q⟩)
/-- the check of an image: over so many bytes -/
def chk (f : Nat → Nat) : Nat → Nat
  | 0 => 233
  | k + 1 => (5 * chk f k + f k) % 251
theorem chk_lt (f : Nat → Nat) : ∀ k, chk f k < 251
  | 0 => by show 233 < 251; decide
  | k + 1 => Nat.mod_lt _ (by decide)
theorem chk_cong {f g : Nat → Nat} : ∀ {k : Nat}, (∀ j, j < k → f j = g j) → chk f k = chk g k
  | 0, _ => rfl
  | k + 1, h => by
    unfold chk
    rw [chk_cong (k := k) (fun j hj => h j (by omega)), h k (by omega)]
end PWr
