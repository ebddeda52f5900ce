/-! instructions of locals, stack, numbers, branches -/
theorem pj_len_of {i : Instr} {len : Nat} (h : (pj_isS i || Nat.beq len (pj_len i)) = true) (hs : pj_isS i = false) : len = pj_len i := by
  rw [hs, Bool.false_or] at h
  exact Nat.eq_of_beq_eq_true h
def pj_okI (e : Nat × Nat × Int32 × Nat) : Bool := decide (tables_1[e.2.2.2]? = some (Cond.constant (cn e.1) e.2.1 e.2.2.1))
def pj_okL (e : Nat × Nat × Int64 × Nat) : Bool := decide (tables_1[e.2.2.2]? = some (Cond.constantLong (cn e.1) e.2.1 e.2.2.1))
set_option maxRecDepth 100000 in
theorem cpI_ok : cpI.all pj_okI = true := by decide +kernel
set_option maxRecDepth 100000 in
theorem cpL_ok : cpL.all pj_okL = true := by decide +kernel
theorem pj_conI {own k : Nat} {w : Int32} (h : (cpI.any fun q => Nat.beq q.1 own && Nat.beq q.2.1 k && decide (q.2.2.1 = w)) = true) : Cond.constant (cn own) k w ∈ pj_tbl := by
  obtain ⟨q, hq, h⟩ := List.any_eq_true.mp h
  simp only [Bool.and_eq_true, decide_eq_true_eq] at h
  obtain ⟨⟨h1, h2⟩, h3⟩ := h
  have e1 := Nat.eq_of_beq_eq_true h1
  have e2 := Nat.eq_of_beq_eq_true h2
  have h4 := List.all_eq_true.mp cpI_ok q hq
  unfold pj_okI at h4
  rw [decide_eq_true_eq, e1, e2, h3] at h4
  exact pj_tb h4
theorem pj_conL {own k : Nat} {w : Int64} (h : (cpL.any fun q => Nat.beq q.1 own && Nat.beq q.2.1 k && decide (q.2.2.1 = w)) = true) : Cond.constantLong (cn own) k w ∈ pj_tbl := by
  obtain ⟨q, hq, h⟩ := List.any_eq_true.mp h
  simp only [Bool.and_eq_true, decide_eq_true_eq] at h
  obtain ⟨⟨h1, h2⟩, h3⟩ := h
  have e1 := Nat.eq_of_beq_eq_true h1
  have e2 := Nat.eq_of_beq_eq_true h2
  have h4 := List.all_eq_true.mp cpL_ok q hq
  unfold pj_okL at h4
  rw [decide_eq_true_eq, e1, e2, h3] at h4
  exact pj_tb h4
section PS
variable {ω : pj_Wd} {p : Program} {l : Launch} {e : Env} {R : Room} {s : State} {m : MethodId} {args : Array Value} {below : List Frame} {meth : Method} {c : Code} {nL : Nat} {QW : State → Prop} {bytes : ByteArray} {own : Nat} {pc : Nat} {L : pj_L} {st : List Value} {Z : pj_Z} {I : Nat → Nat → Int32} {J : Nat → Nat → Int64} {bc bs : Nat}
theorem pj_st1 (X : pj_X ω p R s m args c bytes nL own) {i : Nat} {v : Value} (h : i < L.length) (k : pj_W ω p l e R s m args below meth c nL QW pc (pj_s1 L i v) st Z I J bc bs)
    {pc0 : Nat} {stk : List Value} {H : Heap} {locs : List Loc} {ls : Array Slot} {cells slots : Nat} (g1 : pj_wd ω s Z I J H locs cells) (g2 : cells + bc = R.cells) (g3 : slots + bs = R.slots) (g4 : pj_lr ω ls nL L)
    (row : ∀ (lv lv' : List (Nat × Value)), lv_has ls nL lv → i < nL → (i, pj_cv ω v) :: lv.filter (fun q => !(q.1 == i) && !(q.1 + 1 == i && q.2.category == 2)) = lv' → (∀ ls' : Array Slot, lv_has ls' nL lv' → W p l e R s m args below meth c H locs cells slots QW (F0 m pc ls' (st.map (pj_cv ω)))) → W p l e R s m args below meth c H locs cells slots QW (F0 m pc0 ls stk)) :
    W p l e R s m args below meth c H locs cells slots QW (F0 m pc0 ls stk) := by
  obtain ⟨hl, lv, h1, h2⟩ := g4
  exact row lv _ h1 (by omega) rfl (fun ls' h' => k H locs ls' cells slots g1 g2 g3 (pj_lr_s1 hl h2 v h'))
theorem pj_st2 (X : pj_X ω p R s m args c bytes nL own) {i : Nat} {v : Value} (h : i + 1 < L.length) (k : pj_W ω p l e R s m args below meth c nL QW pc (pj_s2 L i v) st Z I J bc bs)
    {pc0 : Nat} {stk : List Value} {H : Heap} {locs : List Loc} {ls : Array Slot} {cells slots : Nat} (g1 : pj_wd ω s Z I J H locs cells) (g2 : cells + bc = R.cells) (g3 : slots + bs = R.slots) (g4 : pj_lr ω ls nL L)
    (row : ∀ (lv lv' : List (Nat × Value)), lv_has ls nL lv → i + 1 < nL → (i, pj_cv ω v) :: lv.filter (fun q => !(q.1 == i) && (!(q.1 == i + 1) && !(q.1 + 1 == i && q.2.category == 2))) = lv' → (∀ ls' : Array Slot, lv_has ls' nL lv' → W p l e R s m args below meth c H locs cells slots QW (F0 m pc ls' (st.map (pj_cv ω)))) → W p l e R s m args below meth c H locs cells slots QW (F0 m pc0 ls stk)) :
    W p l e R s m args below meth c H locs cells slots QW (F0 m pc0 ls stk) := by
  obtain ⟨hl, lv, h1, h2⟩ := g4
  exact row lv _ h1 (by omega) rfl (fun ls' h' => k H locs ls' cells slots g1 g2 g3 (pj_lr_s2 hl h2 v h'))
theorem pj_iinc (X : pj_X ω p R s m args c bytes nL own) {i : Nat} {n : Int} {w x : Int32} (hd : decode bytes pc = .ok (.iinc i n, 3)) (hw : Int32.ofInt n = w) (hx : L[i]? = some (some (.int x))) (k : pj_W ω p l e R s m args below meth c nL QW (pc + 3) (pj_s1 L i (.int (x + w))) st Z I J bc bs) :
    pj_W ω p l e R s m args below meth c nL QW pc L st Z I J bc bs := by
  intro H locs ls cells slots g1 g2 g3 g4
  have hi : i < L.length := by
    rcases Nat.lt_or_ge i L.length with h | h
    · exact h
    · rw [List.getElem?_eq_none h] at hx; cases hx
  obtain ⟨hl, lv, h1, h2⟩ := g4
  obtain ⟨k0, hk0⟩ := List.mem_iff_getElem?.mp (h2 i _ hx)
  exact lv_iinc X.1 X.2.1 hd h1 hk0 (by rw [hw]) (by omega) rfl (fun ls' h' => k H locs ls' cells slots g1 g2 g3 (pj_lr_s1 hl h2 (.int (x + w)) h'))
/-- a switch by rows: the walk at the row's place or at the default one -/
theorem pj_sw_tab {x : Int32} {d : Nat} {k : Nat → Prop} : ∀ (os : List Int) (lo : Int), -1000000 < lo → lo + os.length < 1000000 + 1 → pj_sw x (pj_swT pc lo os) d k →
    ((x.toInt < lo ∨ lo + os.length - 1 < x.toInt) → k d) ∧ (∀ o, ¬ x.toInt < lo → os[(x.toInt - lo).toNat]? = some o → k ((pc : Int) + o).toNat)
  | [], lo, h1, h2, h => ⟨fun _ => h, fun o _ e => by simp at e⟩
  | o :: os, lo, h1, h2, h => by
    have e0 : (Int32.ofInt lo).toInt = lo := Int32.toInt_ofInt_of_le (by omega) (by rw [List.length_cons] at h2; omega)
    have h : (x = Int32.ofInt lo → k ((pc : Int) + o).toNat) ∧ (¬ x = Int32.ofInt lo → pj_sw x (pj_swT pc (lo + 1) os) d k) := h
    rw [List.length_cons] at h2
    by_cases hx : x = Int32.ofInt lo
    · have hx2 : x.toInt = lo := by rw [hx, e0]
      refine ⟨fun q => ?_, fun o' _ e => ?_⟩
      · rw [List.length_cons] at q
        omega
      · rw [hx2, show (lo - lo).toNat = 0 by omega, List.getElem?_cons_zero] at e
        cases e
        exact h.1 hx
    · have hx2 : x.toInt ≠ lo := fun q => hx (Int32.toInt_inj.mp (by rw [e0]; exact q))
      obtain ⟨a, b⟩ := pj_sw_tab os (lo + 1) (by omega) (by omega) (h.2 hx)
      refine ⟨fun q => a (by rw [List.length_cons] at q; omega), fun o' q e => ?_⟩
      have hp : (x.toInt - lo).toNat = (x.toInt - (lo + 1)).toNat + 1 := by omega
      rw [hp, List.getElem?_cons_succ] at e
      exact b o' (by omega) e
theorem pj_sw_lok {x : Int32} {d : Nat} {k : Nat → Prop} : ∀ (ps : List (Int × Int)) (D : Int), (∀ o ∈ ps, -1000000 < o.1 ∧ o.1 < 1000000 ∧ 0 ≤ (pc : Int) + o.2) → (pc : Int) + D = (d : Int) → pj_sw x (pj_swL pc ps) d k →
    ∃ t : Nat, (pc : Int) + Op.lookupswitch.offset ps D x.toInt = (t : Int) ∧ k t
  | [], D, h1, h2, h => ⟨d, by simpa [Op.lookupswitch.offset] using h2, h⟩
  | o :: os, D, h1, h2, h => by
    obtain ⟨b1, b2, b3⟩ := h1 o List.mem_cons_self
    have e0 : (Int32.ofInt o.1).toInt = o.1 := Int32.toInt_ofInt_of_le (by omega) (by omega)
    have h : (x = Int32.ofInt o.1 → k ((pc : Int) + o.2).toNat) ∧ (¬ x = Int32.ofInt o.1 → pj_sw x (pj_swL pc os) d k) := h
    by_cases hx : x = Int32.ofInt o.1
    · have hx2 : x.toInt = o.1 := by rw [hx, e0]
      refine ⟨((pc : Int) + o.2).toNat, ?_, h.1 hx⟩
      obtain ⟨o1, o2⟩ := o
      have hx2 : x.toInt = o1 := hx2
      rw [show Op.lookupswitch.offset ((o1, o2) :: os) D x.toInt = o2 by simp [Op.lookupswitch.offset, hx2]]
      have b3 : 0 ≤ (pc : Int) + o2 := b3
      show (pc : Int) + o2 = (((pc : Int) + o2).toNat : Int)
      omega
    · obtain ⟨t, q1, q2⟩ := pj_sw_lok os D (fun o ho => h1 o (List.mem_cons_of_mem _ ho)) h2 (h.2 hx)
      refine ⟨t, ?_, q2⟩
      obtain ⟨o1, o2⟩ := o
      rw [lv_osw (k := Int32.ofInt o1) hx e0]
      exact q1
end PS
