/-! the pure machine's cells in the heap -/
/-- classes' numbers, arrays' classes, the script's cell, the literal's, the first new cell, the script's length and ints -/
abbrev pj_Wd : Type := va_G × (Nat → ClassId) × Nat × Nat × Nat × Nat × (Nat → Int32)
def pj_ad (ω : pj_Wd) (a : Nat) : Nat := match a with
  | 0 => ω.2.2.1
  | 1 => ω.2.2.2.1
  | k + 2 => ω.2.2.2.2.1 + k
def pj_cv (ω : pj_Wd) (v : Value) : Value := match v with
  | .ref a => .ref (pj_ad ω a)
  | v => v
theorem pj_cv_cat (ω : pj_Wd) (v : Value) : (pj_cv ω v).category = v.category := by cases v <;> rfl
theorem pj_cv_sum (ω : pj_Wd) : ∀ st : List Value, ((st.map (pj_cv ω)).map fun v => v.category).sum = (st.map Value.category).sum
  | [] => rfl
  | v :: st => by
    have ih := pj_cv_sum ω st
    simp only [List.map_cons, List.sum_cons, pj_cv_cat, ih]
def pj_fv (ω : pj_Wd) (Z : pj_Z) (I : Nat → Nat → Int32) (J : Nat → Nat → Int64) (c k j : Nat) : Value := match pj_ft c j with
  | 0 => .int (I k j)
  | 1 => .long (J k j)
  | 2 => va_rf ((Z.2.2.2 k j).map (pj_ad ω))
  | _ => .int (I k j)
def pj_we (ω : pj_Wd) (Z : pj_Z) (I : Nat → Nat → Int32) (J : Nat → Nat → Int64) (k : Nat) : va_E := match Z.2.1 k with
  | 13 => .inl (ω.2.1 0, Z.2.2.1 k, .inl (I k))
  | 14 => .inl (ω.2.1 1, Z.2.2.1 k, .inr (.inl (J k)))
  | 15 => .inl (ω.2.1 2, Z.2.2.1 k, .inl (I k))
  | 16 => .inl (ω.2.1 3, Z.2.2.1 k, .inr (.inr (.inr (.inr fun j => (Z.2.2.2 k j).map (pj_ad ω)))))
  | 17 => .inl (ω.2.1 4, Z.2.2.1 k, .inr (.inr (.inr (.inr fun j => (Z.2.2.2 k j).map (pj_ad ω)))))
  | c => .inr (c, (List.range (pj_nf c)).map (pj_fv ω Z I J c k))
def pj_wl (ω : pj_Wd) (Z : pj_Z) (I : Nat → Nat → Int32) (J : Nat → Nat → Int64) : va_W := (List.range (Z.1 - 2)).map fun k => (ω.2.2.2.2.1 + k, pj_we ω Z I J (k + 2))
section PW
variable {ω : pj_Wd} {Z Z' : pj_Z} {I I' : Nat → Nat → Int32} {J J' : Nat → Nat → Int64}
theorem pj_wl_get {k : Nat} (h : k + 2 < Z.1) : (pj_wl ω Z I J)[k]? = some (ω.2.2.2.2.1 + k, pj_we ω Z I J (k + 2)) := by
  unfold pj_wl
  rw [List.getElem?_map, List.getElem?_range (by omega)]
  rfl
theorem pj_wl_inv {k : Nat} {x : Nat × va_E} (h : (pj_wl ω Z I J)[k]? = some x) : k + 2 < Z.1 ∧ x = (ω.2.2.2.2.1 + k, pj_we ω Z I J (k + 2)) := by
  by_cases hk : k + 2 < Z.1
  · rw [pj_wl_get hk] at h
    exact ⟨hk, (Option.some.inj h).symm⟩
  · have hn : (pj_wl ω Z I J)[k]? = none := by
      rw [List.getElem?_eq_none_iff]
      unfold pj_wl
      rw [List.length_map, List.length_range]
      omega
    rw [hn] at h
    cases h
theorem pj_wl_D : va_D (fun x => ω.2.2.2.2.1 ≤ x) (pj_wl ω Z I J) := by
  refine ⟨fun i j x y hi hj e => ?_, fun k x hk => ?_⟩
  · obtain ⟨-, rfl⟩ := pj_wl_inv hi
    obtain ⟨-, rfl⟩ := pj_wl_inv hj
    have e : ω.2.2.2.2.1 + i = ω.2.2.2.2.1 + j := e
    omega
  · obtain ⟨-, rfl⟩ := pj_wl_inv hk
    exact Nat.le_add_right _ _
theorem pj_wl_len : (pj_wl ω Z I J).length = Z.1 - 2 := by
  unfold pj_wl
  rw [List.length_map, List.length_range]
theorem pj_wl_set {a : Nat} (ha : a + 2 < Z.1) (hn : Z'.1 = Z.1) (ho : ∀ k, k ≠ a + 2 → pj_we ω Z' I' J' k = pj_we ω Z I J k) : pj_wl ω Z' I' J' = (pj_wl ω Z I J).set a (ω.2.2.2.2.1 + a, pj_we ω Z' I' J' (a + 2)) := by
  refine List.ext_getElem? (fun k => ?_)
  rw [List.getElem?_set]
  by_cases hk : k + 2 < Z.1
  · rw [pj_wl_get (by rw [hn]; exact hk)]
    by_cases hak : a = k
    · subst hak
      rw [if_pos rfl, if_pos (by rw [pj_wl_len]; omega)]
    · rw [if_neg hak, pj_wl_get hk, ho (k + 2) (by omega)]
  · have e1 : (pj_wl ω Z' I' J')[k]? = none := by rw [List.getElem?_eq_none_iff, pj_wl_len, hn]; omega
    have e2 : (pj_wl ω Z I J)[k]? = none := by rw [List.getElem?_eq_none_iff, pj_wl_len]; omega
    rw [e1, if_neg (by omega), e2]
theorem pj_wl_push (h2 : 2 ≤ Z.1) (hn : Z'.1 = Z.1 + 1) (ho : ∀ k, k < Z.1 → pj_we ω Z' I' J' k = pj_we ω Z I J k) : pj_wl ω Z' I' J' = pj_wl ω Z I J ++ [(ω.2.2.2.2.1 + (Z.1 - 2), pj_we ω Z' I' J' Z.1)] := by
  have e : Z'.1 - 2 = Z.1 - 2 + 1 := by omega
  unfold pj_wl
  rw [e, List.range_succ, List.map_append]
  congr 1
  · apply List.map_congr_left
    intro k hk
    rw [ho (k + 2) (by have := List.mem_range.mp hk; omega)]
  · show [(_, pj_we ω Z' I' J' (Z.1 - 2 + 2))] = _
    rw [show Z.1 - 2 + 2 = Z.1 by omega]
theorem pj_u_fun {α : Type} (f : Nat → Nat → α) (a k : Nat) (v : α) {b : Nat} (h : b ≠ a) : pj_u f a k v b = f b := funext fun j => pj_u_row f a k v h j
/-- the parts that are read of a cell -/
theorem pj_we_eq {k : Nat} (hk : Z'.2.1 k = Z.2.1 k) (hl : Z'.2.2.1 k = Z.2.2.1 k) (hr : Z'.2.2.2 k = Z.2.2.2 k) (hI : I' k = I k) (hJ : J' k = J k) : pj_we ω Z' I' J' k = pj_we ω Z I J k := by
  unfold pj_we pj_fv
  rw [hk, hl, hr, hI, hJ]
end PW
/-- what is sure of the cells' numbers -/
def pj_wf (Z : pj_Z) : Prop := 2 ≤ Z.1 ∧ Z.2.1 0 = 18 ∧ Z.2.1 1 = 19 ∧ ∀ k, Z.1 ≤ k → Z.2.1 k = 20
theorem pj_wf_in {Z : pj_Z} (h : pj_wf Z) {a c : Nat} (hc : Z.2.1 a = c) (hl : c < 18) : ∃ k, a = k + 2 ∧ k + 2 < Z.1 := by
  obtain ⟨h1, h2, h3, h4⟩ := h
  rcases a with _ | _ | k
  · have hc : Z.2.1 0 = c := hc
    omega
  · have hc : Z.2.1 1 = c := hc
    omega
  · refine ⟨k, rfl, Nat.lt_of_not_le fun q => ?_⟩
    have hc : Z.2.1 (k + 2) = c := hc
    have := h4 (k + 2) q
    omega
def pj_tys (ω : pj_Wd) : List (ClassId × FieldType) := [(ω.2.1 0, .int), (ω.2.1 1, .long), (ω.2.1 2, .boolean), (ω.2.1 3, .object "PegCoats$State"), (ω.2.1 4, .array .int)]
/-- locals -/
def pj_lr (ω : pj_Wd) (ls : Array Slot) (nL : Nat) (L : pj_L) : Prop := L.length = nL ∧ ∃ l : List (Nat × Value), lv_has ls nL l ∧ ∀ (i : Nat) (v : Value), L[i]? = some (some v) → (i, pj_cv ω v) ∈ l
section PL
variable {ω : pj_Wd} {ls : Array Slot} {nL : Nat} {L : pj_L}
theorem pj_lr_get (h : pj_lr ω ls nL L) {i : Nat} {v : Value} (e : L[i]? = some (some v)) : ls[i]? = some (.val (pj_cv ω v)) := by
  obtain ⟨-, l, h1, h2⟩ := h
  exact h1.2.2 _ (h2 i v e)
theorem pj_kill_len (L : pj_L) (i : Nat) : (pj_kill L i).length = L.length := by
  cases i with
  | zero => rfl
  | succ j =>
    show (pj_k1 L[j]? L j).length = L.length
    rcases L[j]? with _ | _ | v
    · rfl
    · rfl
    · cases v <;> first | rfl | exact List.length_set
theorem pj_kill_get {L : pj_L} {i j : Nat} {v : Value} (e : (pj_kill L i)[j]? = some (some v)) : L[j]? = some (some v) ∧ ¬ (j + 1 = i ∧ v.category = 2) := by
  cases i with
  | zero => exact ⟨e, fun h => by omega⟩
  | succ n =>
    have e : (pj_k1 L[n]? L n)[j]? = some (some v) := e
    by_cases hj : j = n
    · subst hj
      cases hL : L[j]? with
      | none => rw [hL] at e; rw [show pj_k1 none L j = L from rfl, hL] at e; cases e
      | some o =>
        rw [hL] at e
        cases o with
        | none => rw [show pj_k1 (some none) L j = L from rfl, hL] at e; cases e
        | some u =>
          have hs : ∀ (h : (L.set j none)[j]? = some (some v)), False := fun h => by
            rw [List.getElem?_set, if_pos rfl] at h
            split at h <;> cases h
          cases u
          case long x => exact (hs e).elim
          case double x => exact (hs e).elim
          all_goals
            rw [show pj_k1 (some (some _)) L j = L from rfl, hL] at e
            cases e
            exact ⟨rfl, fun h => by have := h.2; simp [Value.category] at this⟩
    · refine ⟨?_, fun h => hj (by omega)⟩
      have hs : (L.set n none)[j]? = L[j]? := by rw [List.getElem?_set, if_neg (fun q => hj q.symm)]
      rcases hq : L[n]? with _ | _ | u
      · rw [hq] at e; exact e
      · rw [hq] at e; exact e
      · rw [hq] at e
        cases u <;> first | exact e | (rw [show pj_k1 (some (some (Value.long _))) L n = L.set n none from rfl, hs] at e; exact e) | (rw [show pj_k1 (some (some (Value.double _))) L n = L.set n none from rfl, hs] at e; exact e)
theorem pj_lr_s1 {l : List (Nat × Value)} (hl : L.length = nL) (h2 : ∀ (i : Nat) (v : Value), L[i]? = some (some v) → (i, pj_cv ω v) ∈ l) {i : Nat} (v : Value) {ls' : Array Slot} (h' : lv_has ls' nL ((i, pj_cv ω v) :: l.filter (fun q => !(q.1 == i) && !(q.1 + 1 == i && q.2.category == 2)))) : pj_lr ω ls' nL (pj_s1 L i v) := by
  refine ⟨by unfold pj_s1; rw [List.length_set, pj_kill_len]; exact hl, _, h', fun j u e => ?_⟩
  unfold pj_s1 at e
  rw [List.getElem?_set] at e
  by_cases hij : i = j
  · subst hij
    rw [if_pos rfl] at e
    split at e
    · cases e; exact List.mem_cons_self
    · cases e
  · rw [if_neg hij] at e
    obtain ⟨e1, e2⟩ := pj_kill_get e
    refine List.mem_cons_of_mem _ (List.mem_filter.mpr ⟨h2 j u e1, ?_⟩)
    simp only [pj_cv_cat, Bool.and_eq_true, Bool.not_eq_true', Bool.and_eq_false_iff, beq_eq_false_iff_ne]
    refine ⟨fun q => hij q.symm, ?_⟩
    by_cases hq : j + 1 = i
    · right
      intro q
      exact e2 ⟨hq, q⟩
    · left
      exact hq
theorem pj_lr_s2 {l : List (Nat × Value)} (hl : L.length = nL) (h2 : ∀ (i : Nat) (v : Value), L[i]? = some (some v) → (i, pj_cv ω v) ∈ l) {i : Nat} (v : Value) {ls' : Array Slot} (h' : lv_has ls' nL ((i, pj_cv ω v) :: l.filter (fun q => !(q.1 == i) && (!(q.1 == i + 1) && !(q.1 + 1 == i && q.2.category == 2))))) : pj_lr ω ls' nL (pj_s2 L i v) := by
  refine ⟨by unfold pj_s2; rw [List.length_set, List.length_set, pj_kill_len]; exact hl, _, h', fun j u e => ?_⟩
  unfold pj_s2 at e
  rw [List.getElem?_set] at e
  by_cases hi1 : i + 1 = j
  · rw [if_pos hi1] at e
    split at e <;> cases e
  rw [if_neg hi1, List.getElem?_set] at e
  by_cases hij : i = j
  · subst hij
    rw [if_pos rfl] at e
    split at e
    · cases e; exact List.mem_cons_self
    · cases e
  · rw [if_neg hij] at e
    obtain ⟨e1, e2⟩ := pj_kill_get e
    refine List.mem_cons_of_mem _ (List.mem_filter.mpr ⟨h2 j u e1, ?_⟩)
    simp only [pj_cv_cat, Bool.and_eq_true, Bool.not_eq_true', Bool.and_eq_false_iff, beq_eq_false_iff_ne]
    refine ⟨fun q => hij q.symm, fun q => hi1 q.symm, ?_⟩
    by_cases hq : j + 1 = i
    · right
      intro q
      exact e2 ⟨hq, q⟩
    · left
      exact hq
theorem pj_en_args : ∀ (vs : List Value) (o i : Nat) (v : Value), (pj_en vs)[i]? = some (some v) → (o + i, pj_cv ω v) ∈ lv_args o (vs.map (pj_cv ω))
  | [], o, i, v, e => by simp [pj_en] at e
  | u :: vs, o, i, v, e => by
    have key : ∀ (w : Value), u = w → (w.category = 1 → pj_en (u :: vs) = some w :: pj_en vs) ∧ (w.category = 2 → pj_en (u :: vs) = some w :: none :: pj_en vs) := by
      intro w hw
      subst hw
      cases u <;> simp [pj_en, Value.category]
    rw [List.map_cons, lv_args, pj_cv_cat]
    rcases lv_cat u with hc | hc
    · rw [(key u rfl).1 hc] at e
      cases i with
      | zero =>
        rw [List.getElem?_cons_zero] at e
        cases e
        exact List.mem_cons_self
      | succ i =>
        rw [List.getElem?_cons_succ] at e
        have := pj_en_args vs (o + 1) i v e
        rw [if_neg (by omega), show o + (i + 1) = o + 1 + i by omega]
        exact List.mem_cons_of_mem _ this
    · rw [(key u rfl).2 hc] at e
      rcases i with _ | _ | i
      · rw [List.getElem?_cons_zero] at e
        cases e
        exact List.mem_cons_self
      · rw [List.getElem?_cons_succ, List.getElem?_cons_zero] at e
        cases e
      · rw [List.getElem?_cons_succ, List.getElem?_cons_succ] at e
        have := pj_en_args vs (o + 2) i v e
        rw [if_pos hc, show o + (i + 1 + 1) = o + 2 + i by omega]
        exact List.mem_cons_of_mem _ this
end PL
