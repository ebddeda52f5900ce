/-! the reference: bounds, division below, what two make -/
def T01 (a : Int) : Prop := a = 0 ∨ a = 1
section PMi
variable {n h : Nat} {Q : pj_K} {I : Nat → Nat → Int32} {J : Nat → Nat → Int64}
theorem s221 (hh : 1 ≤ h) {x : Int} (hx : I64 x) (q : Q (some (.long (iL (cl x)))) (zc n, I, J)) : pj_D h 221 [.long (iL x)] (zc n, I, J) Q := by
  refine pj_ent (g := 0) hh (t := mt_221) rfl rfl (v221_0 (pj_D_le 0) I J _ ?_)
  rw [lg_cmp_le, lg_cmp_ge]
  have e1 : iL x ≤ 1000000 ↔ x ≤ 1000000 := iL_le (b := 1000000) hx ⟨by decide, by decide⟩
  have e2 : -1000000 ≤ iL x ↔ -1000000 ≤ x := by
    rw [show (-1000000 : Int64) = iL (-1000000) by decide]
    exact iL_le ⟨by decide, by decide⟩ hx
  rw [e1, e2]
  unfold cl at q
  refine ⟨fun c => ⟨fun d => ?_, fun d => ?_⟩, fun c => ?_⟩
  · rw [if_pos c, if_pos d] at q; exact q
  · rw [if_pos c, if_neg d] at q; exact q
  · rw [if_neg c] at q; exact q
theorem s222 (hh : 1 ≤ h) {a b : Int} (ha : GB a) (hb : GB b) (q : Q (some (.long (iL (if b = 0 then 0 else fl a b)))) (zc n, I, J)) : pj_D h 222 [.long (iL a), .long (iL b)] (zc n, I, J) Q := by
  refine pj_ent (g := 0) hh (t := mt_222) rfl rfl (v222_0 (pj_D_le 0) I J _ _ ?_)
  have b0 : iL b = 0 ↔ b = 0 := iL_eq (b := 0) hb.l ⟨by decide, by decide⟩
  have p0 : 0 ≤ iL a ↔ 0 ≤ a := iL_le (a := 0) ⟨by decide, by decide⟩ ha.l
  have p1 : 0 ≤ iL b ↔ 0 ≤ b := iL_le (a := 0) ⟨by decide, by decide⟩ hb.l
  have m0 : iL (a - a.tdiv b * b) = 0 ↔ a - a.tdiv b * b = 0 := iL_eq (b := 0) (tmod_b ha).l ⟨by decide, by decide⟩
  have e1 : iL (a.tdiv b) - 1 = iL (a.tdiv b - 1) := iL_sub _ 1
  rw [lg_cmp_eq, lg_cmp_eq, lg_cmp_ge, lg_cmp_ge, iL_div ha hb, iL_mul, iL_sub, e1, b0, p0, p1, m0]
  unfold fl at q
  refine ⟨fun c => ⟨c, c, fun d => ?_, fun d => ⟨fun e => ⟨fun f => ?_, fun f => ?_⟩, fun e => ⟨fun f => ?_, fun f => ?_⟩⟩⟩, fun c => ?_⟩
  · rw [if_neg c, if_pos d] at q; exact q
  · rw [if_neg c, if_neg d, if_pos e, if_pos f] at q; exact q
  · rw [if_neg c, if_neg d, if_pos e, if_neg f] at q; exact q
  · rw [if_neg c, if_neg d, if_neg e, if_pos f] at q; exact q
  · rw [if_neg c, if_neg d, if_neg e, if_neg f] at q; exact q
  · rw [if_pos c] at q; exact q
theorem fl_b {a b : Int} (ha : GB a) : -1000001 ≤ fl a b ∧ fl a b ≤ 1000000 := by
  have := tdiv_b (b := b) ha
  unfold fl
  repeat' split
  all_goals omega
theorem fl_m {a b : Int} (ha : GB a) (hb : GB b) : -2000000 ≤ a - b * fl a b ∧ a - b * fl a b ≤ 2000000 := by
  have gm := tmod_b (b := b) ha
  have r1 : a - b * a.tdiv b = a - a.tdiv b * b := by rw [Int.mul_comm]
  have r2 : a - b * (a.tdiv b - 1) = a - a.tdiv b * b + b := by rw [Int.mul_sub, Int.mul_comm b (a.tdiv b)]; omega
  unfold GB at gm hb
  unfold fl
  repeat' split
  all_goals (first | rw [r1] | rw [r2])
  all_goals omega
/-- PegCoatsModel.two -/
theorem s220 (hh : 2 ≤ h) {o : Nat} {a b : Int} (ho : 31 ≤ o) (ho2 : o ≤ 42) (ha : GB a) (hb : GB b) (ht : 41 ≤ o → T01 a ∧ T01 b) (q : Q (some (.long (iL (op2 o a b)))) (zc n, I, J)) : pj_D h 220 [.int (nI o), .long (iL a), .long (iL b)] (zc n, I, J) Q := by
  refine pj_ent (g := 1) hh (t := mt_220) rfl rfl (v220_0 (pj_D_le 1) I J _ _ _ ?_)
  have mm := mul_b ha hb
  have ff1 := fl_b (b := b) ha
  have ff2 := fl_m ha hb
  have a1 := ha.1
  have a2 := ha.2
  have b1 := hb.1
  have b2 := hb.2
  have b0 : iL b = 0 ↔ b = 0 := iL_eq (b := 0) hb.l ⟨by decide, by decide⟩
  rw [lg_cmp_eq, lg_cmp_ge, lg_cmp_le, lg_cmp_eq, iL_add, iL_sub, iL_mul, iL_le ha.l hb.l, iL_le hb.l ha.l, iL_eq ha.l hb.l, b0]
  let A : Int64 → Prop := fun v => Q (some (.long v)) (zc n, I, J)
  have qa : A (iL (op2 o a b)) := q
  obtain rfl | rfl | rfl | rfl | rfl | rfl | rfl | rfl | rfl | rfl | rfl | rfl : o = 31 ∨ o = 32 ∨ o = 33 ∨ o = 34 ∨ o = 35 ∨ o = 36 ∨ o = 37 ∨ o = 38 ∨ o = 39 ∨ o = 40 ∨ o = 41 ∨ o = 42 := by omega
  all_goals repeat refine br_f (by decide) ?_
  all_goals try refine br_t (by decide) ?_
  · exact s221 (Nat.le_refl 1) (x := a + b) ⟨by omega, by omega⟩ (kL_i qa)
  · exact s221 (Nat.le_refl 1) (x := a - b) ⟨by omega, by omega⟩ (kL_i qa)
  · exact s221 (Nat.le_refl 1) (x := a * b) ⟨by omega, by omega⟩ (kL_i qa)
  · have qa : A (iL (if b = 0 then 0 else cl (fl a b))) := qa
    refine s222 (Nat.le_refl 1) ha hb (kL_i ?_)
    by_cases c : b = 0
    · rw [if_pos c] at qa ⊢
      exact s221 (Nat.le_refl 1) (x := 0) ⟨by decide, by decide⟩ (kL_i qa)
    · rw [if_neg c] at qa ⊢
      exact s221 (Nat.le_refl 1) (x := fl a b) ⟨by omega, by omega⟩ (kL_i qa)
  · have qa : A (iL (if b = 0 then 0 else cl (a - b * fl a b))) := qa
    refine ⟨fun c => s222 (Nat.le_refl 1) ha hb (kL_i ?_), fun c => ?_⟩
    · rw [if_neg c] at qa ⊢
      rw [iL_mul, iL_sub]
      exact s221 (Nat.le_refl 1) (x := a - b * fl a b) ⟨by omega, by omega⟩ (kL_i qa)
    · rw [if_pos c] at qa; exact qa
  · have qa : A (iL (if b ≤ a then b else a)) := qa
    exact ⟨fun c => by rw [if_pos c] at qa; exact qa, fun c => by rw [if_neg c] at qa; exact qa⟩
  · have qa : A (iL (if a ≤ b then b else a)) := qa
    exact ⟨fun c => by rw [if_pos c] at qa; exact qa, fun c => by rw [if_neg c] at qa; exact qa⟩
  · have qa : A (iL (if b ≤ a then 0 else 1)) := qa
    exact ⟨fun c => by rw [if_pos c] at qa; exact qa, fun c => by rw [if_neg c] at qa; exact qa⟩
  · have qa : A (iL (if a ≤ b then 0 else 1)) := qa
    exact ⟨fun c => by rw [if_pos c] at qa; exact qa, fun c => by rw [if_neg c] at qa; exact qa⟩
  · have qa : A (iL (if a = b then 1 else 0)) := qa
    exact ⟨fun c => by rw [if_neg c] at qa; exact qa, fun c => by rw [if_pos c] at qa; exact qa⟩
  · have qa : A (iL (if b ≤ a then b else a)) := qa
    obtain ⟨rfl | rfl, rfl | rfl⟩ := ht (by decide) <;> exact qa
  · have qa : A (iL (if a ≤ b then b else a)) := qa
    obtain ⟨rfl | rfl, rfl | rfl⟩ := ht (by decide) <;> exact qa
end PMi
