/-! the step, by cases -/
section PM
variable {ω : pj_Wd} {p : Program} {l : Launch} {e : Env} {R : Room} {s : State} {m : MethodId} {args : Array Value} {below : List Frame} {meth : Method} {c : Code} {nL : Nat} {QW : State → Prop} {bytes : ByteArray} {own d : Nat} {pc : Nat} {L : pj_L} {st : List Value} {Z : pj_Z} {I : Nat → Nat → Int32} {J : Nat → Nat → Int64} {bc bs : Nat} {C : pj_CT} {rt : Bool} {Q : pj_K} {rk : Nat} {ini : Bool}
/-- the ends of a body -/
def pj_end (ω : pj_Wd) (p : Program) (l : Launch) (e : Env) (R : Room) (s : State) (m : MethodId) (args : Array Value) (below : List Frame) (meth : Method) (c : Code) (bytes : ByteArray) (QW : State → Prop) (rt : Bool) (rk : Nat) (Q : pj_K) : Prop :=
  (∀ (pc : Nat) (H : Heap) (locs : List Loc) (ls : Array Slot) (Z : pj_Z) (I : Nat → Nat → Int32) (J : Nat → Nat → Int64) (a : Int32), (rk = 1 ∨ rk = 3) → decode bytes pc = .ok (.ireturn, 1) → (rt = true → a &&& 1 = a) → Q (some (.int a)) (Z, I, J) → pj_wd ω s Z I J H locs R.cells → W p l e R s m args below meth c H locs R.cells R.slots QW (F0 m pc ls [.int a])) ∧
  (∀ (pc : Nat) (H : Heap) (locs : List Loc) (ls : Array Slot) (Z : pj_Z) (I : Nat → Nat → Int32) (J : Nat → Nat → Int64) (a : Int64), rk = 2 → decode bytes pc = .ok (.lreturn, 1) → Q (some (.long a)) (Z, I, J) → pj_wd ω s Z I J H locs R.cells → W p l e R s m args below meth c H locs R.cells R.slots QW (F0 m pc ls [.long a])) ∧
  (∀ (pc : Nat) (H : Heap) (locs : List Loc) (ls : Array Slot) (Z : pj_Z) (I : Nat → Nat → Int32) (J : Nat → Nat → Int64), rk = 0 → decode bytes pc = .ok (.return_, 1) → Q none (Z, I, J) → pj_wd ω s Z I J H locs R.cells → W p l e R s m args below meth c H locs R.cells R.slots QW (F0 m pc ls []))
theorem pj_lrs {ls : Array Slot} (h : pj_lr ω ls nL L) : ls.size = nL := by
  obtain ⟨-, lv, h1, -⟩ := h
  exact h1.1
theorem pj_map_split {y : Nat} (hy : y ≤ st.length) : st.map (pj_cv ω) = (((st.take y).reverse).map (pj_cv ω)).reverse ++ (st.drop y).map (pj_cv ω) := by
  rw [← List.map_reverse, List.reverse_reverse, ← List.map_append, List.take_append_drop]
theorem pj_tail (r : Option Value) (st : List Value) : (r.map (pj_cv ω)).toList ++ st.map (pj_cv ω) = (r.toList ++ st).map (pj_cv ω) := by cases r <;> rfl
/-- calls of ours -/
theorem pj_stepC (X : pj_X ω p R s m args c bytes nL own) (hM : pj_hM l ω C d) (hR1 : d + 11 ≤ R.frames) (hR2 : 64 * d + 704 ≤ R.locals) {k x y z kind : Nat} {inst : Bool} (hx : Nat.ble 1000 x = false) (hl : (cpM.any fun q => Nat.beq q.1 own && Nat.beq q.2.1 k && Nat.beq q.2.2.1 x) = true) (hv : pj_okV kind x y z = true)
    (hk : (kind = 0 ∧ inst = true ∧ decode bytes pc = .ok (.invokevirtual k, 3)) ∨ (kind = 1 ∧ inst = false ∧ decode bytes pc = .ok (.invokestatic k, 3)) ∨ (kind = 2 ∧ inst = true ∧ decode bytes pc = .ok (.invokespecial k, 3))) {mc ms : Nat} (hm : (mc = (ta x).1 ∧ ms = (ta x).2) ∨ (kind ≠ 2 ∧ mc = 0 ∧ ms = 0))
    (h : pj_call C (pj_W ω p l e R s m args below meth c nL QW) x y z (pc + 3) inst L st Z I J bc bs mc ms) : pj_W ω p l e R s m args below meth c nL QW pc L st Z I J bc bs := by
  have hx2 : x < 1000 := by
    rcases Nat.lt_or_ge x 1000 with q | q
    · exact q
    · rw [Nat.ble_eq_true_of_le q] at hx; cases hx
  unfold pj_okV at hv
  rw [hx] at hv
  dsimp only at hv
  cases ht : tm x with
  | none => rw [ht] at hv; cases hv
  | some t =>
    rw [ht] at hv
    dsimp only at hv
    simp only [Bool.and_eq_true, Bool.or_eq_true] at hv
    obtain ⟨⟨⟨v1, v2⟩, v3⟩, v4⟩ := hv
    have v1 := Nat.eq_of_beq_eq_true v1
    have v2 := Nat.eq_of_beq_eq_true v2
    have hms : mc = (ta x).1 ∧ ms = (ta x).2 := by
      rcases hm with hm | ⟨q1, q2, q3⟩
      · exact hm
      · rcases v4 with v4 | v4
        · exact absurd (Nat.eq_of_beq_eq_true v4) q1
        · exact ⟨by rw [q2, Nat.eq_of_beq_eq_true v4.1], by rw [q3, Nat.eq_of_beq_eq_true v4.2]⟩
    obtain ⟨rfl, rfl⟩ := hms
    unfold pj_call at h
    obtain ⟨hb, h⟩ := pj_c_e h
    simp only [Bool.and_eq_true] at hb
    obtain ⟨⟨⟨b1, b2⟩, b3⟩, b4⟩ := hb
    have b1 := Nat.le_of_ble_eq_true b1
    have b2 := Nat.le_of_ble_eq_true b2
    have b3 := Nat.le_of_ble_eq_true b3
    have b4 := Nat.le_of_ble_eq_true b4
    intro H locs ls cells slots g1 g2 g3 g4
    have hrest : (((st.drop y).map (pj_cv ω)).map fun v => v.category).sum ≤ 8 := by rw [pj_cv_sum]; exact b2
    have hlen : (st.take y).reverse.length = y := by rw [List.length_reverse, List.length_take]; omega
    rw [pj_map_split b1]
    rcases hk with ⟨rfl, rfl, hd⟩ | ⟨rfl, rfl, hd⟩ | ⟨rfl, rfl, hd⟩
    · obtain ⟨a, As, hAs, h⟩ := pj_pR_e h
      obtain ⟨ha, h⟩ := pj_c_e h
      rw [hAs] at h hlen ⊢
      have v3 : z = t.2.1.1 := by
        rcases v3 with v3 | v3
        · cases v3
        · exact Nat.eq_of_beq_eq_true v3
      have v2 : y = (mp x).1 + 1 := v2
      rw [List.map_cons, List.reverse_cons, List.append_assoc, List.singleton_append]
      refine pj_cV X hM hR1 hR2 hx2 ht v1 v3 hl (by rw [List.length_cons] at hlen; omega) (Nat.eq_of_beq_eq_true ha) hrest hd g1 (pj_lrs g4) (by omega) (by omega) h (fun r σ H1 locs1 hK hwd => ?_)
      rw [pj_tail]
      exact hK H1 locs1 ls _ _ hwd (by omega) (by omega) g4
    · have v2 : y = (mp x).1 + 0 := v2
      refine pj_cS X hM hR1 hR2 hx2 ht v1 hl (by rw [hlen]; omega) hrest hd g1 (pj_lrs g4) (by omega) (by omega) h (fun r σ H1 locs1 hK hwd => ?_)
      rw [pj_tail]
      exact hK H1 locs1 ls _ _ hwd (by omega) (by omega) g4
    · obtain ⟨a, As, hAs, h⟩ := pj_pR_e h
      obtain ⟨ha, h⟩ := pj_c_e h
      rw [hAs] at h hlen ⊢
      have v2 : y = (mp x).1 + 1 := v2
      rw [List.map_cons, List.reverse_cons, List.append_assoc, List.singleton_append]
      refine pj_cI X hM hR1 hR2 hx2 ht v1 hl (by rw [List.length_cons] at hlen; omega) hrest hd g1 (pj_lrs g4) (by omega) (by omega) h (fun r σ H1 locs1 hK hwd => ?_)
      rw [pj_tail]
      exact hK H1 locs1 ls _ _ hwd (by omega) (by omega) g4
end PM
