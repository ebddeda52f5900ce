/-! calls: contracts, words -/
theorem pj_pay {args : Array Value} {s : State} (hts : ∀ w ∈ pj_tbl, w.before args s = true) : ∀ w ∈ pj_tbl, ∀ (a' : Array Value) (U : State), s.WarmedH U.vm → w.before a' U = true := by
  intro w hw a' U hW
  have h1 : (goodWord w || pj_isN w) = true := (List.mem_filter.mp hw).2
  have hb := hts w hw
  rw [Bool.or_eq_true] at h1
  rcases h1 with h1 | h1
  · exact word_at hW (good_of_word h1) hb
  · revert hb h1
    cases w <;> intro hb h1 <;> first
      | exact va_Nw.use rfl (va_Nw.warmF hW (va_Nw.of rfl hb))
      | exact va_Nw.use rfl (va_Nw.warmM hW (va_Nw.of rfl hb))
      | (have h2 := Cond.stringRef_warmed (args := args) hW hb; first | exact va_tabs rfl rfl h2 | (simp only [Cond.before, Cond.holds, Cond.value, State.names, State.poolOf?, State.resolvedAt?] at h2 ⊢; exact h2))
      | (rename_i ty; have h2 : (Cond.arrayOver ty).before args (s.setVm U.vm) = true := (by rw [Cond.arrayOver_setVmC hW.alike]; exact hb); exact h2)
      | cases h1
/-- a call's start -/
def pj_B (ω : pj_Wd) (σ : pj_S) (U : State) : Prop := pj_wf σ.1 ∧ va_P ω.1 pj_cl (pj_wl ω σ.1 σ.2.1 σ.2.2) U.heap ∧ U.heap.size = ω.2.2.2.2.1 + (σ.1.1 - 2) ∧ va_K ω.1 pj_cl (pj_tys ω) U ∧ σ.1.2.2.1 0 = ω.2.2.2.2.2.1 ∧ σ.2.1 0 = ω.2.2.2.2.2.2 ∧ va_X ω.2.2.1 ω.2.2.2.2.2.1 ω.2.2.2.2.2.2 U U.heap ∧ ω.2.2.1 < ω.2.2.2.2.1 ∧ pj_st ω U
def pj_Pc (ω : pj_Wd) (as : List Value) (σ : pj_S) : Array Value → State → Prop := va_Pc (as.map (pj_cv ω)) (pj_B ω σ)
/-- a call's end -/
def pj_Qc (ω : pj_Wd) (mc : Nat) (K : pj_K) : Array Value → State → Outcome → State → Prop := fun _ st oc t =>
  (∃ (r : Option Value) (σ : pj_S), K r σ ∧ oc = .returned (r.map (pj_cv ω)) ∧ pj_wf σ.1 ∧ va_P ω.1 pj_cl (pj_wl ω σ.1 σ.2.1 σ.2.2) t.heap ∧ st.heap.size + mc = ω.2.2.2.2.1 + (σ.1.1 - 2) ∧ σ.1.2.2.1 0 = ω.2.2.2.2.2.1 ∧ σ.2.1 0 = ω.2.2.2.2.2.2) ∧ va_F (fun x => ω.2.2.2.2.1 ≤ x) st t
theorem pj_blind (ω : pj_Wd) (as : List Value) (σ : pj_S) : FrameBlind (pj_Pc ω as σ) := by
  intro a U g mk q
  obtain ⟨q0, q1, q2, q3, q4, q5, q6, q7, q8, q9⟩ := q
  exact ⟨q0, q1, q2, q3, va_K.moved (u := U) (U := U.calling g mk a) (Vm.Alike.refl U.vm) q4, q5, q6, va_X.moved (u := U) (U := U.calling g mk a) (Vm.Alike.refl U.vm) q7, q8, pj_st_move q9 (vk_R.same (u := U) rfl q9.1) (Vm.Alike.refl U.vm) (fun _ _ _ => rfl)⟩
section PC
variable {ω : pj_Wd} {p : Program} {l : Launch} {e : Env} {R : Room} {s : State} {m : MethodId} {args : Array Value} {below : List Frame} {meth : Method} {c : Code} {nL : Nat} {QW : State → Prop} {bytes : ByteArray} {own : Nat} {pc : Nat} {Z : pj_Z} {I : Nat → Nat → Int32} {J : Nat → Nat → Int64} {H : Heap} {locs : List Loc} {ls : Array Slot} {cells slots mc ms : Nat} {rest st0 : List Value}
theorem pj_szle (X : pj_X ω p R s m args c bytes nL own) (g : pj_wd ω s Z I J H locs cells) : ω.2.2.2.2.1 + (Z.1 - 2) ≤ H.size := by
  obtain ⟨⟨w1, -⟩, g2, g3, g4, -⟩ := g
  rcases Nat.lt_or_ge 2 Z.1 with h | h
  · have hk : (Z.1 - 3) + 2 < Z.1 := by omega
    have h1 := (g2 _ _ (pj_wl_get (ω := ω) (I := I) (J := J) hk)).lt
    have h1 : ω.2.2.2.2.1 + (Z.1 - 3) < H.size := h1
    omega
  · have h1 := g4.1
    have h2 := X.2.2.2.2.2.2.1
    omega
/-- at a call: the callee's start holds -/
theorem pj_start (X : pj_X ω p R s m args c bytes nL own) (g : pj_wd ω s Z I J H locs cells) (hsz : H.size = ω.2.2.2.2.1 + (Z.1 - 2)) (as : List Value) : ∀ U : State, U.heap = H → s.WarmedH U.vm → pj_Pc ω as (Z, I, J) (as.map (pj_cv ω)).toArray U := by
  intro U hU hW
  obtain ⟨hX, hb1, hb2⟩ := X.2.2.2.2.2.2.2.1
  refine ⟨rfl, g.1, by rw [hU]; exact g.2.1, by rw [hU]; exact hsz, va_K.moved hW.alike X.2.2.2.2.2.1, g.2.2.2.2.1, g.2.2.2.2.2, ?_, hb1, ?_⟩
  · rw [hU]
    exact va_X.moved hW.alike (hX.kept (g.2.2.2.1.2.1 _ hb2 (Nat.not_le.mpr hb1)))
  · have hs := X.2.2.2.2.2.2.2.2.2.2
    exact pj_st_move hs (vk_R.warm hW hs.1) hW.alike (fun a h1 h2 => by rw [hU]; exact g.2.2.2.1.2.1 a h1 h2)
/-- behind a call -/
theorem pj_back {a : Array Value} {K : pj_K} (hr : va_Run p l e R s m args below meth c H locs cells slots mc ms (F0 m pc ls st0) rest (pj_Qc ω mc K a) (fun x => ω.2.2.2.2.1 ≤ x)) (hS : va_S (fun x => ω.2.2.2.2.1 ≤ x) s.heap H locs) (hsz : H.size = s.heap.size + cells)
    (kk : ∀ (r : Option Value) (σ : pj_S) (H1 : Heap) (locs1 : List Loc), K r σ → pj_wd ω s σ.1 σ.2.1 σ.2.2 H1 locs1 (cells + mc) → W p l e R s m args below meth c H1 locs1 (cells + mc) (slots + ms) QW (F0 m (pc + 3) ls ((r.map (pj_cv ω)).toList ++ rest))) :
    W p l e R s m args below meth c H locs cells slots QW (F0 m pc ls st0) := by
  intro T hT X
  obtain ⟨v, st₀, t, T', L, h0, X', hL, e1, e2, ⟨⟨r, σ, hk, hv, w1, w2, w3, w4, w5⟩, hz, hkeep⟩, st⟩ := hr T hT X
  have hv : v = r.map (pj_cv ω) := Outcome.returned.inj hv
  subst hv
  rw [h0] at hz hkeep w3
  have hS' : va_S (fun x => ω.2.2.2.2.1 ≤ x) s.heap T'.heap (locs ++ L) := ⟨Nat.le_trans hS.1 (by rw [e1]; exact hz), fun q h1 h2 => by rw [e1, hkeep q (Nat.lt_of_lt_of_le h1 hS.1) h2]; exact hS.2.1 q h1 h2, fun q hq => by
    rcases List.mem_append.mp hq with h | h
    · exact hS.2.2 q h
    · exact hL q h⟩
  obtain ⟨t2, a1, b1⟩ := kk r σ T'.heap (locs ++ L) hk ⟨w1, by rw [e1]; exact w2, by omega, hS', w4, w5⟩ T' rfl X'
  exact ⟨t2, st t2 a1, b1⟩
end PC
