/-! the check of the tape -/
/-- the tape of the class: so many bytes -/
def TC (m : Nat) (f : Nat → Nat) (I : Nat → Nat → Int32) : Prop := m ≤ 1600 ∧ I 3 1 = nI m ∧ ∀ k, k < m → I 4 k = nI (f k) ∧ f k < 256
/-- the tape of the reference -/
def TM (m : Nat) (f : Nat → Nat) (I : Nat → Nat → Int32) : Prop := m ≤ 1600 ∧ I 276 1 = nI m ∧ ∀ k, k < m → I 277 k = nI (f k) ∧ f k < 256
section PCk
variable {n h : Nat} {Q : pj_K} {I : Nat → Nat → Int32} {J : Nat → Nat → Int64}
theorem ck_step {a b : Nat} (ha : a < 251) (hb : b < 256) : (5 : Int32) * nI a + nI b - ((5 : Int32) * nI a + nI b) / 251 * 251 = nI ((5 * a + b) % 251) := by
  have e : (5 : Int32) * nI a + nI b = nI (5 * a + b) := by
    show nI 5 * nI a + nI b = _
    rw [pk_mul, nI_add]
  rw [e]
  exact pk_rem (d := 251) (by omega) (by decide) (by decide)
/-- Tape.at, by the tape's bytes -/
theorem s85t (hh : 1 ≤ h) {m k : Nat} {f : Nat → Nat} (hT : TC m f I) (hk : k < m) (q : Q (some (.int (nI (f k)))) (zc n, I, J)) : pj_D h 85 [.ref 3, .int (nI k)] (zc n, I, J) Q := by
  refine s85 hh hT.2.1 hT.1 (by have := hT.1; omega) ?_
  rw [if_pos hk, (hT.2.2 k hk).1]
  exact q
/-- Picture.hasCheck -/
theorem s32 (hh : 2 ≤ h) {m : Nat} {f : Nat → Nat} (hT : TC m f I) (hm : 0 < m) (q : Q (some (.int (bi (decide (f (m - 1) = chk f (m - 1)))))) (zc n, I, J)) : pj_D h 32 [.ref 3] (zc n, I, J) Q := by
  refine pj_ent (g := 1) hh (t := mt_32) rfl rfl (v32_0 (pj_D_le 1) I J ?_)
  have h16 := hT.1
  suffices loop : ∀ r k, r + k = m - 1 → pj_R (pj_D 1) ta mc_32 true Q 6 [some (.ref 3), some (.int (nI (chk f k))), some (.int (nI k))] [] (zc n) I J 0 0 from loop (m - 1) 0 (by omega)
  intro r
  induction r with
  | zero =>
    intro k hk
    obtain rfl : k = m - 1 := by omega
    refine v32_6 (pj_D_le 1) I J _ _ ?_
    rw [hT.2.1, su_1 hm]
    refine pk_le (m - 1) (m - 1) (fun _ => s85t (Nat.le_refl 1) hT (by omega) (kI_i ?_)) (fun c => by omega)
    have hc := chk_lt f (m - 1)
    have hb := (hT.2.2 (m - 1) (by omega)).2
    by_cases e : f (m - 1) = chk f (m - 1)
    · rw [decide_eq_true e] at q
      exact ⟨fun z => absurd (by rw [e]) z, fun _ => q⟩
    · rw [decide_eq_false e] at q
      exact ⟨fun _ => q, fun z => absurd ((nI_eq (by omega) (by omega)).mp z) e⟩
  | succ r ih =>
    intro k hk
    refine v32_6 (pj_D_le 1) I J _ _ ?_
    rw [hT.2.1, su_1 hm]
    refine pk_le (m - 1) k (fun c => by omega) (fun c => s85t (Nat.le_refl 1) hT (by omega) (kI_i ?_))
    rw [ck_step (chk_lt f k) (hT.2.2 k (by omega)).2, nI_1]
    exact ih (k + 1) (by omega)
end PCk
