/-! kept years: a row (year, put on, went) for each -/
/-- how many are told -/
def tld (m : Nat) : Nat := if 40 < m then 40 else m
/-- the class: one number a row -/
def KC (m : Nat) (f : Nat → Nat × Nat × Nat) (I : Nat → Nat → Int32) : Prop := m ≤ 999 ∧ I 35 8 = nI m ∧ ∀ i, i < m → I 274 i = nI (64 * (f i).1 + 8 * (f i).2.1 + (f i).2.2) ∧ (f i).1 ≤ 999 ∧ (f i).2.1 ≤ 7 ∧ (f i).2.2 ≤ 7
/-- a layer v of the reference: the last forty -/
def KM (v m : Nat) (f : Nat → Nat × Nat × Nat) (I : Nat → Nat → Int32) : Prop := I 307 v = nI (tld m) ∧ ∀ i, i < tld m → I 308 (120 * v + 3 * i) = nI (f (m - tld m + i)).1 ∧ I 308 (120 * v + 3 * i + 1) = nI (f (m - tld m + i)).2.1 ∧ I 308 (120 * v + 3 * i + 2) = nI (f (m - tld m + i)).2.2
def keptV (r : Nat × Nat × Nat) (q : Int32) : Int32 := if q = 0 then nI r.1 else if q = 1 then nI r.2.1 else if q = 2 then nI r.2.2 else -1
section PKp
variable {n h : Nat} {Q : pj_K} {I : Nat → Nat → Int32} {J : Nat → Nat → Int64}
theorem tld_le (m : Nat) : tld m ≤ m ∧ tld m ≤ 40 := by
  unfold tld
  by_cases c : 40 < m
  · rw [if_pos c]; omega
  · rw [if_neg c]; omega
theorem s118 (hh : 1 ≤ h) {m : Nat} (hm : I 35 8 = nI m) (hm2 : m ≤ 999) (q : Q (some (.int (nI (tld m)))) (zc n, I, J)) : pj_D h 118 [.ref 2] (zc n, I, J) Q := by
  refine pj_ent (g := 0) hh (t := mt_118) rfl rfl (v118_0 (pj_D_le 0) I J ?_)
  rw [hm]
  have e : (if 40 < nI m then 40 else nI m) = nI (tld m) := by
    show (if nI 40 < nI m then nI 40 else nI m) = _
    unfold tld
    by_cases c : 40 < m
    · rw [if_pos c, if_pos ((nI_ltI (by decide) (by omega)).mpr c)]
    · rw [if_neg c, if_neg (fun z => c ((nI_ltI (by decide) (by omega)).mp z))]
  rw [e]
  exact q
/-- PegCoats.kept -/
theorem s153 (hh : 2 ≤ h) {m : Nat} {f : Nat → Nat × Nat × Nat} {p w : Int32} (hK : KC m f I) (q1 : ∀ k, k < tld m → p = nI k → Q (some (.int (keptV (f (m - tld m + k)) w))) (zc n, I, J)) (q2 : (∀ k, k < tld m → p ≠ nI k) → Q (some (.int (-1))) (zc n, I, J)) : pj_D h 153 [.ref 2, .int p, .int w] (zc n, I, J) Q := by
  obtain ⟨hm2, hm, hf⟩ := hK
  have ht := tld_le m
  refine pj_ent (g := 1) hh (t := mt_153) rfl rfl (v153_0 (pj_D_le 1) I J _ _ ?_)
  refine s118 (Nat.le_refl 1) hm hm2 (kI_i ⟨fun c => q2 (fun k hk e => ?_), fun c => ?_⟩)
  · rw [e] at c
    exact nI_pos (by omega) c
  · obtain ⟨j, hj, rfl⟩ := nI_of c
    refine pk_lt j (tld m) (fun c2 => ?_) (fun c2 => q2 (fun k hk e => ?_))
    · have q1 := q1 j c2 rfl
      obtain ⟨r1, r2, r3, r4⟩ := hf (m - tld m + j) (by omega)
      rw [hm, pk_sub ht.1, nI_add, nI_clamp (n := m - tld m + j) (by omega), r1]
      refine ⟨pk_in (m - tld m + j) 999 (by omega), ?_⟩
      generalize f (m - tld m + j) = r at q1 r2 r3 r4
      have e6 : nI (64 * r.1 + 8 * r.2.1 + r.2.2) >>> ((6 : Int32) &&& 31) = nI r.1 := by
        rw [pk_shrN (by omega) ((6 : Int32) &&& 31) 6 (by decide)]
        exact congrArg nI (by omega)
      have e3 : nI (64 * r.1 + 8 * r.2.1 + r.2.2) >>> ((3 : Int32) &&& 31) &&& 7 = nI r.2.1 := by
        rw [pk_shrN (by omega) ((3 : Int32) &&& 31) 3 (by decide), pk_andN (by omega) (m := 7) 3 (by decide)]
        exact congrArg nI (by omega)
      have e0 : nI (64 * r.1 + 8 * r.2.1 + r.2.2) &&& 7 = nI r.2.2 := by
        rw [pk_andN (by omega) (m := 7) 3 (by decide)]
        exact congrArg nI (by omega)
      rw [e6, e3, e0]
      unfold keptV at q1
      refine ⟨fun c => ?_, fun c0 => ⟨fun c => ?_, fun c1 => ⟨fun c => ?_, fun c2 => ?_⟩⟩⟩
      · rw [if_pos c] at q1; exact q1
      · rw [if_neg c0, if_pos c] at q1; exact q1
      · rw [if_neg c0, if_neg c1, if_pos c] at q1; exact q1
      · rw [if_neg c0, if_neg c1, if_neg c2] at q1; exact q1
    · have := (nI_eq hj (by omega)).mp e
      omega
end PKp
