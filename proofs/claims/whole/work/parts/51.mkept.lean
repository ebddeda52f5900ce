/-! the reference: kept years -/
section PMk
variable {n h : Nat} {Q : pj_K} {I : Nat → Nat → Int32} {J : Nat → Nat → Int64}
/-- PegCoatsModel.kept -/
theorem s258 (hh : 2 ≤ h) {m : Nat} {f : Nat → Nat × Nat × Nat} {p w : Int32} (hK : KM 0 m f I) (q1 : ∀ k, k < tld m → p = nI k → Q (some (.int (keptV (f (m - tld m + k)) w))) (zc n, I, J)) (q2 : (∀ k, k < tld m → p ≠ nI k) → Q (some (.int (-1))) (zc n, I, J)) : pj_D h 258 [.ref 276, .int p, .int w] (zc n, I, J) Q := by
  obtain ⟨hm, hf⟩ := hK
  have ht := tld_le m
  refine pj_ent (g := 1) hh (t := mt_258) rfl rfl (v258_0 (pj_D_le 1) I J _ _ ?_)
  rw [hm]
  refine s179 (Nat.le_refl 1) (kI_i ?_)
  by_cases c : (0 : Int32) ≤ p ∧ p ≤ nI (tld m) - 1
  · rw [if_pos c]
    refine ⟨fun z => absurd z (by decide), fun _ => ?_⟩
    obtain ⟨j, hj, rfl⟩ := nI_of (Int32.not_lt.mpr c.1)
    have hjm : j < tld m := by
      rcases Nat.eq_zero_or_pos (tld m) with z | z
      · exfalso
        have c2 := c.2
        rw [z] at c2
        have c3 : nI j ≤ (-1 : Int32) := c2
        have : (0 : Int32) ≤ -1 := Int32.le_trans c.1 c3
        exact absurd this (by decide)
      · have c2 := c.2
        rw [su_1 z] at c2
        have := (nI_leI hj (by omega)).mp c2
        omega
    have q1 := q1 j hjm rfl
    obtain ⟨r1, r2, r3⟩ := hf j hjm
    rw [Nat.mul_zero, Nat.zero_add] at r1 r2 r3
    refine s179 (Nat.le_refl 1) (kI_i ?_)
    unfold keptV at q1
    have e3 : ∀ t, (3 : Int32) * nI j + nI t = nI (3 * j + t) := fun t => by rw [li_3, nI_add]
    by_cases c0 : w = 0
    · subst c0
      rw [if_pos rfl] at q1
      rw [if_pos (by decide)]
      refine ⟨fun z => absurd z (by decide), fun _ => ?_⟩
      have e := e3 0
      have e : (3 : Int32) * nI j + 0 = nI (3 * j + 0) := e
      rw [e, nI_clamp (by omega)]
      refine ⟨pk_in (3 * j + 0) 2640 (by omega), ?_⟩
      rw [Nat.add_zero, r1]
      exact q1
    · by_cases c1 : w = 1
      · subst c1
        rw [if_neg c0, if_pos rfl] at q1
        rw [if_pos (by decide)]
        refine ⟨fun z => absurd z (by decide), fun _ => ?_⟩
        have e : (3 : Int32) * nI j + 1 = nI (3 * j + 1) := e3 1
        rw [e, nI_clamp (by omega)]
        refine ⟨pk_in (3 * j + 1) 2640 (by omega), ?_⟩
        rw [r2]
        exact q1
      · by_cases c2 : w = 2
        · subst c2
          rw [if_neg c0, if_neg c1, if_pos rfl] at q1
          rw [if_pos (by decide)]
          refine ⟨fun z => absurd z (by decide), fun _ => ?_⟩
          have e : (3 : Int32) * nI j + 2 = nI (3 * j + 2) := e3 2
          rw [e, nI_clamp (by omega)]
          refine ⟨pk_in (3 * j + 2) 2640 (by omega), ?_⟩
          rw [r3]
          exact q1
        · rw [if_neg c0, if_neg c1, if_neg c2] at q1
          rw [if_neg (fun z => ?_)]
          · exact ⟨fun _ => q1, fun z => absurd rfl z⟩
          · obtain ⟨i, hi, rfl⟩ := nI_of (Int32.not_lt.mpr z.1)
            have h2 : i ≤ 2 := (nI_leI (b := 2) hi (by decide)).mp z.2
            rcases i with _ | _ | _ | i
            · exact c0 rfl
            · exact c1 rfl
            · exact c2 rfl
            · omega
  · rw [if_neg c]
    refine ⟨fun _ => q2 (fun k hk e => c ?_), fun z => absurd rfl z⟩
    rw [e, su_1 (by omega)]
    exact ⟨nI_pos' (by omega), nI_le (by omega) (by omega)⟩
end PMk
