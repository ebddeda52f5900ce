/-! whole numbers in ints and longs -/
def iI (a : Int) : Int32 := Int32.ofInt a
def iL (a : Int) : Int64 := Int64.ofInt a
def GB (a : Int) : Prop := -1000000 ≤ a ∧ a ≤ 1000000
def I32 (a : Int) : Prop := -2147483648 ≤ a ∧ a < 2147483648
def I64 (a : Int) : Prop := -9223372036854775808 ≤ a ∧ a < 9223372036854775808
theorem iI_t {a : Int} (h : I32 a) : (iI a).toInt = a := Int32.toInt_ofInt_of_le h.1 (by have := h.2; omega)
theorem iL_t {a : Int} (h : I64 a) : (iL a).toInt = a := Int64.toInt_ofInt_of_le h.1 (by have := h.2; omega)
theorem GB.i {a : Int} (h : GB a) : I32 a := ⟨by have := h.1; omega, by have := h.2; omega⟩
theorem GB.l {a : Int} (h : GB a) : I64 a := ⟨by have := h.1; omega, by have := h.2; omega⟩
theorem iI_le {a b : Int} (ha : I32 a) (hb : I32 b) : iI a ≤ iI b ↔ a ≤ b := by rw [Int32.le_iff_toInt_le, iI_t ha, iI_t hb]
theorem iI_lt {a b : Int} (ha : I32 a) (hb : I32 b) : iI a < iI b ↔ a < b := by rw [Int32.lt_iff_toInt_lt, iI_t ha, iI_t hb]
theorem iI_eq {a b : Int} (ha : I32 a) (hb : I32 b) : iI a = iI b ↔ a = b := by rw [← Int32.toInt_inj, iI_t ha, iI_t hb]
theorem iL_le {a b : Int} (ha : I64 a) (hb : I64 b) : iL a ≤ iL b ↔ a ≤ b := by rw [Int64.le_iff_toInt_le, iL_t ha, iL_t hb]
theorem iL_lt {a b : Int} (ha : I64 a) (hb : I64 b) : iL a < iL b ↔ a < b := by rw [Int64.lt_iff_toInt_lt, iL_t ha, iL_t hb]
theorem iL_eq {a b : Int} (ha : I64 a) (hb : I64 b) : iL a = iL b ↔ a = b := by rw [← Int64.toInt_inj, iL_t ha, iL_t hb]
theorem iI_add (a b : Int) : iI a + iI b = iI (a + b) := (Int32.ofInt_add a b).symm
theorem iI_sub (a b : Int) : iI a - iI b = iI (a - b) := (Int32.ofInt_sub a b).symm
theorem iI_mul (a b : Int) : iI a * iI b = iI (a * b) := (Int32.ofInt_mul a b).symm
theorem iL_add (a b : Int) : iL a + iL b = iL (a + b) := (Int64.ofInt_add a b).symm
theorem iL_sub (a b : Int) : iL a - iL b = iL (a - b) := (Int64.ofInt_sub a b).symm
theorem iL_mul (a b : Int) : iL a * iL b = iL (a * b) := (Int64.ofInt_mul a b).symm
theorem tdiv_b {a b M : Int} (h : -M ≤ a ∧ a ≤ M) : -M ≤ a.tdiv b ∧ a.tdiv b ≤ M := by
  have h1 : (a.tdiv b).natAbs ≤ a.natAbs := Int.natAbs_tdiv_le_natAbs a b
  omega
theorem iI_div {a b : Int} (ha : GB a) (hb : GB b) : iI a / iI b = iI (a.tdiv b) := by
  apply Int32.toInt_inj.mp
  have h := tdiv_b (b := b) ha
  rw [Int32.toInt_div, iI_t ha.i, iI_t hb.i, iI_t (GB.i h)]
  exact Int.bmod_eq_of_le (by have := h.1; omega) (by have := h.2; omega)
theorem iL_div {a b : Int} (ha : GB a) (hb : GB b) : iL a / iL b = iL (a.tdiv b) := by
  apply Int64.toInt_inj.mp
  have h := tdiv_b (b := b) ha
  rw [Int64.toInt_div, iL_t ha.l, iL_t hb.l, iL_t (GB.l h)]
  exact Int.bmod_eq_of_le (by have := h.1; omega) (by have := h.2; omega)
theorem iI_l {a : Int} (h : I32 a) : (iI a).toInt64 = iL a := by
  apply Int64.toInt_inj.mp
  rw [Int32.toInt_toInt64, iI_t h, iL_t ⟨by have := h.1; omega, by have := h.2; omega⟩]
theorem iL_i (a : Int) : (iL a).toInt32 = iI a := Int64.toInt32_ofInt
theorem iI_n (a : Nat) : iI (a : Int) = nI a := rfl
theorem iL_n (a : Nat) : iL (a : Int) = lN a := rfl
/-- bounds, division below, what two make -/
def cl (a : Int) : Int := if a ≤ 1000000 then (if -1000000 ≤ a then a else -1000000) else 1000000
theorem cl_b (a : Int) : GB (cl a) := by
  unfold cl GB
  split
  · split <;> omega
  · omega
theorem cl_e {a : Int} (h : GB a) : cl a = a := by
  unfold cl
  rw [if_pos h.2, if_pos h.1]
def fl (a b : Int) : Int := if a - a.tdiv b * b = 0 then a.tdiv b else if 0 ≤ a then (if 0 ≤ b then a.tdiv b else a.tdiv b - 1) else (if 0 ≤ b then a.tdiv b - 1 else a.tdiv b)
def op2 (o : Nat) (a b : Int) : Int :=
  if o = 31 then cl (a + b) else if o = 32 then cl (a - b) else if o = 33 then cl (a * b)
  else if o = 34 then (if b = 0 then 0 else cl (fl a b)) else if o = 35 then (if b = 0 then 0 else cl (a - b * fl a b))
  else if o = 36 then (if b ≤ a then b else a) else if o = 37 then (if a ≤ b then b else a)
  else if o = 38 then (if b ≤ a then 0 else 1) else if o = 39 then (if a ≤ b then 0 else 1) else if o = 40 then (if a = b then 1 else 0)
  else if o = 41 then (if b ≤ a then b else a) else (if a ≤ b then b else a)
/-- the class's codes of what two make -/
def cop (o : Nat) : Int32 := if o = 31 then -143 else if o = 32 then -145 else if o = 33 then -142 else if o = 34 then -147 else if o = 35 then -137 else if o = 36 then -50 else if o = 37 then -51 else if o = 38 then -160 else if o = 39 then -162 else if o = 40 then -161 else if o = 41 then -47 else -46
theorem lim_ok {x : Int} {A : Int32 → Prop} (h : I64 x) (q : A (iI (cl x))) : ((lg_cmp (iL x) 1000000 ≤ 0 → ((0 ≤ lg_cmp (iL x) (-1000000) → A (Int64.toInt32 (iL x))) ∧ (¬ 0 ≤ lg_cmp (iL x) (-1000000) → A (-1000000)))) ∧ (¬ lg_cmp (iL x) 1000000 ≤ 0 → A 1000000)) := by
  rw [lg_cmp_le, lg_cmp_ge, iL_i]
  have e1 : iL x ≤ 1000000 ↔ x ≤ 1000000 := iL_le (b := 1000000) h ⟨by decide, by decide⟩
  have e2 : -1000000 ≤ iL x ↔ -1000000 ≤ x := by
    rw [show (-1000000 : Int64) = iL (-1000000) by decide]
    exact iL_le ⟨by decide, by decide⟩ h
  rw [e1, e2]
  unfold cl at q
  refine ⟨fun c => ⟨fun d => ?_, fun d => ?_⟩, fun c => ?_⟩
  · rw [if_pos c, if_pos d] at q; exact q
  · rw [if_pos c, if_neg d] at q; exact q
  · rw [if_neg c] at q; exact q
theorem lim_i {x : Int} {A : Int32 → Prop} (h : I32 x) (q : A (iI (cl x))) : ((lg_cmp (iI x).toInt64 1000000 ≤ 0 → ((0 ≤ lg_cmp (iI x).toInt64 (-1000000) → A (Int64.toInt32 (iI x).toInt64)) ∧ (¬ 0 ≤ lg_cmp (iI x).toInt64 (-1000000) → A (-1000000)))) ∧ (¬ lg_cmp (iI x).toInt64 1000000 ≤ 0 → A 1000000)) := by
  rw [iI_l h]
  exact lim_ok ⟨by have := h.1; omega, by have := h.2; omega⟩ q
theorem mul_b {a b : Int} (ha : GB a) (hb : GB b) : -1000000000000 ≤ a * b ∧ a * b ≤ 1000000000000 := by
  have h1 : (a * b).natAbs = a.natAbs * b.natAbs := Int.natAbs_mul a b
  have h2 : a.natAbs ≤ 1000000 := by have := ha.1; have := ha.2; omega
  have h3 : b.natAbs ≤ 1000000 := by have := hb.1; have := hb.2; omega
  have h4 : a.natAbs * b.natAbs ≤ 1000000 * 1000000 := Nat.mul_le_mul h2 h3
  omega
theorem tmod_b {a b : Int} (ha : GB a) : GB (a - a.tdiv b * b) := by
  have e : a - a.tdiv b * b = a.tmod b := by
    have := Int.tmod_add_tdiv_mul a b
    omega
  rw [e]
  have h1 : (a.tmod b).natAbs ≤ a.natAbs := by
    rw [Int.natAbs_tmod]
    exact Nat.mod_le _ _
  have := ha.1
  have := ha.2
  exact ⟨by omega, by omega⟩
section PIn
variable {n h : Nat} {Q : pj_K} {I : Nat → Nat → Int32} {J : Nat → Nat → Int64}
/-- Works.combined -/
theorem s107 (hh : 1 ≤ h) {o : Nat} {a b : Int} (ho : 31 ≤ o) (ho2 : o ≤ 42) (ha : GB a) (hb : GB b) (q : Q (some (.int (iI (op2 o a b)))) (zc n, I, J)) : pj_D h 107 [.int (cop o), .int (iI a), .int (iI b)] (zc n, I, J) Q := by
  refine pj_ent (g := 0) hh (t := mt_107) rfl rfl (v107_0 (pj_D_le 0) I J _ _ _ ?_)
  have ia := ha.i
  have ib := hb.i
  have b0 : iI b = 0 ↔ b = 0 := iI_eq (b := 0) ib ⟨by decide, by decide⟩
  have p0 : 0 ≤ iI a ↔ 0 ≤ a := iI_le (a := 0) ⟨by decide, by decide⟩ ia
  have p1 : 0 ≤ iI b ↔ 0 ≤ b := iI_le (a := 0) ⟨by decide, by decide⟩ ib
  have m0 : iI (a - a.tdiv b * b) = 0 ↔ a - a.tdiv b * b = 0 := iI_eq (b := 0) (tmod_b ha).i ⟨by decide, by decide⟩
  have td := tdiv_b (b := b) ha
  have tm := tmod_b (b := b) ha
  have mm := mul_b ha hb
  have a1 := ha.1
  have a2 := ha.2
  have b1 := hb.1
  have b2 := hb.2
  have e1 : iI (a.tdiv b) - 1 = iI (a.tdiv b - 1) := iI_sub _ 1
  rw [iI_div ha hb, iI_mul, iI_sub, iI_add, e1, iI_l ia, iI_l ib, iL_add, iL_sub, iL_mul, iI_le ia ib, iI_le ib ia, iI_eq ia ib, b0, p0, p1, m0]
  have L0 : ∀ {A : Int32 → Prop}, A 0 → ((lg_cmp 0 1000000 ≤ 0 → ((0 ≤ lg_cmp 0 (-1000000) → A (Int64.toInt32 0)) ∧ (¬ 0 ≤ lg_cmp 0 (-1000000) → A (-1000000)))) ∧ (¬ lg_cmp 0 1000000 ≤ 0 → A 1000000)) := fun q => lim_ok (x := 0) ⟨by decide, by decide⟩ q
  have L1 : ∀ {A : Int32 → Prop}, A 1 → ((lg_cmp 1 1000000 ≤ 0 → ((0 ≤ lg_cmp 1 (-1000000) → A (Int64.toInt32 1)) ∧ (¬ 0 ≤ lg_cmp 1 (-1000000) → A (-1000000)))) ∧ (¬ lg_cmp 1 1000000 ≤ 0 → A 1000000)) := fun q => lim_ok (x := 1) ⟨by decide, by decide⟩ q
  let A : Int32 → Prop := fun v => Q (some (.int v)) (zc n, I, J)
  have qa : A (iI (op2 o a b)) := q
  have key : ∀ {x : Int}, GB x → A (iI x) → A (iI (cl x)) := fun {x} hx z => by rw [cl_e hx]; exact z
  obtain rfl | rfl | rfl | rfl | rfl | rfl | rfl | rfl | rfl | rfl | rfl | rfl : o = 31 ∨ o = 32 ∨ o = 33 ∨ o = 34 ∨ o = 35 ∨ o = 36 ∨ o = 37 ∨ o = 38 ∨ o = 39 ∨ o = 40 ∨ o = 41 ∨ o = 42 := by omega
  all_goals repeat refine br_f (by decide) ?_
  all_goals refine br_t (by decide) ?_
  · exact lim_ok (A := A) (x := a + b) ⟨by omega, by omega⟩ qa
  · exact lim_ok (A := A) (x := a - b) ⟨by omega, by omega⟩ qa
  · exact lim_ok (A := A) (x := a * b) ⟨by omega, by omega⟩ qa
  · have qa : A (iI (if b = 0 then 0 else cl (fl a b))) := qa
    unfold fl at qa
    refine ⟨fun c => ⟨c, ⟨fun d => ⟨c, lim_i (A := A) (GB.i td) ?_⟩, fun d => ⟨fun e => ⟨fun f => ⟨c, lim_i (A := A) (GB.i td) ?_⟩, fun f => ⟨c, lim_i (A := A) (x := a.tdiv b - 1) ⟨by omega, by omega⟩ ?_⟩⟩, fun e => ⟨fun f => ⟨c, lim_i (A := A) (x := a.tdiv b - 1) ⟨by omega, by omega⟩ ?_⟩, fun f => ⟨c, lim_i (A := A) (GB.i td) ?_⟩⟩⟩⟩⟩, fun c => L0 (A := A) ?_⟩
    · rw [if_neg c, if_pos d] at qa; exact qa
    · rw [if_neg c, if_neg d, if_pos e, if_pos f] at qa; exact qa
    · rw [if_neg c, if_neg d, if_pos e, if_neg f] at qa; exact qa
    · rw [if_neg c, if_neg d, if_neg e, if_pos f] at qa; exact qa
    · rw [if_neg c, if_neg d, if_neg e, if_neg f] at qa; exact qa
    · rw [if_pos c] at qa; exact qa
  · have qa : A (iI (if b = 0 then 0 else cl (a - b * fl a b))) := qa
    have r1 : a - b * a.tdiv b = a - a.tdiv b * b := by rw [Int.mul_comm]
    have r2 : a - b * (a.tdiv b - 1) = a - a.tdiv b * b + b := by rw [Int.mul_sub, Int.mul_comm b (a.tdiv b)]; omega
    have gm := tm
    unfold GB at gm
    unfold fl at qa
    refine ⟨fun c => ⟨c, ⟨fun d => ⟨c, lim_i (A := A) (GB.i tm) ?_⟩, fun d => ⟨fun e => ⟨fun f => ⟨c, lim_i (A := A) (GB.i tm) ?_⟩, fun f => ⟨c, lim_i (A := A) (x := a - a.tdiv b * b + b) ⟨by omega, by omega⟩ ?_⟩⟩, fun e => ⟨fun f => ⟨c, lim_i (A := A) (x := a - a.tdiv b * b + b) ⟨by omega, by omega⟩ ?_⟩, fun f => ⟨c, lim_i (A := A) (GB.i tm) ?_⟩⟩⟩⟩⟩, fun c => L0 (A := A) ?_⟩
    · rw [if_neg c, if_pos d, r1] at qa; exact qa
    · rw [if_neg c, if_neg d, if_pos e, if_pos f, r1] at qa; exact qa
    · rw [if_neg c, if_neg d, if_pos e, if_neg f, r2] at qa; exact qa
    · rw [if_neg c, if_neg d, if_neg e, if_pos f, r2] at qa; exact qa
    · rw [if_neg c, if_neg d, if_neg e, if_neg f, r1] at qa; exact qa
    · rw [if_pos c] at qa; exact qa
  · have qa : A (iI (if b ≤ a then b else a)) := qa
    refine ⟨fun c => ?_, fun c => ?_⟩
    · rw [if_pos c] at qa; exact lim_ok (A := A) hb.l (key hb qa)
    · rw [if_neg c] at qa; exact lim_ok (A := A) ha.l (key ha qa)
  · have qa : A (iI (if a ≤ b then b else a)) := qa
    refine ⟨fun c => ?_, fun c => ?_⟩
    · rw [if_pos c] at qa; exact lim_ok (A := A) hb.l (key hb qa)
    · rw [if_neg c] at qa; exact lim_ok (A := A) ha.l (key ha qa)
  · have qa : A (iI (if b ≤ a then 0 else 1)) := qa
    refine ⟨fun c => ?_, fun c => ?_⟩
    · rw [if_pos c] at qa; exact L0 (A := A) qa
    · rw [if_neg c] at qa; exact L1 (A := A) qa
  · have qa : A (iI (if a ≤ b then 0 else 1)) := qa
    refine ⟨fun c => ?_, fun c => ?_⟩
    · rw [if_pos c] at qa; exact L0 (A := A) qa
    · rw [if_neg c] at qa; exact L1 (A := A) qa
  · have qa : A (iI (if a = b then 1 else 0)) := qa
    refine ⟨fun c => ?_, fun c => ?_⟩
    · rw [if_neg c] at qa; exact L0 (A := A) qa
    · rw [if_pos c] at qa; exact L1 (A := A) qa
  · have qa : A (iI (if b ≤ a then b else a)) := qa
    refine ⟨fun c => ?_, fun c => ?_⟩
    · rw [if_pos c] at qa; exact lim_ok (A := A) hb.l (key hb qa)
    · rw [if_neg c] at qa; exact lim_ok (A := A) ha.l (key ha qa)
  · have qa : A (iI (if a ≤ b then b else a)) := qa
    refine ⟨fun c => ?_, fun c => ?_⟩
    · rw [if_pos c] at qa; exact lim_ok (A := A) hb.l (key hb qa)
    · rw [if_neg c] at qa; exact lim_ok (A := A) ha.l (key ha qa)
end PIn
