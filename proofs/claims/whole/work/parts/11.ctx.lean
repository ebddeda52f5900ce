/-! a method's body, and the walk goal of the pure machine -/
/-- the literal's bytes, and what is sure of it -/
def pj_by : List Int32 := [99, 111, 97, 116, 32, 32, 115, 105, 122, 101, 32, 32, 112, 97, 121, 32, 32, 32, 109, 97, 110, 32, 32, 32, 97, 103, 101, 32, 32, 32, 119, 101, 97, 114, 115, 32, 111, 102, 32, 32, 32, 32, 119, 97, 114, 109, 115, 32, 103, 114, 111, 119, 115, 32, 108, 101, 97, 118, 101, 115, 102, 105, 114, 101, 32, 32, 121, 101, 97, 114, 32, 32, 108, 105, 110, 105, 110, 103, 112, 117, 114, 115, 101, 32, 99, 111, 97, 116, 101, 100, 105, 102, 32, 32, 32, 32, 111, 114, 32, 32, 32, 32, 97, 110, 100, 32, 32, 32, 110, 111, 116, 32, 32, 32, 97, 108, 108, 32, 32, 32, 109, 105, 110, 32, 32, 32, 109, 97, 120, 32, 32, 32]
def pj_st (ω : pj_Wd) (U : State) : Prop := vk_R "PegCoats$Scanner" 38 pj_lit ω.2.2.2.1 U ∧ (∃ qv : Nat, vk_S 1 [132] [pj_by] (fun _ => ω.2.2.2.1) (fun _ => qv) (fun x => ω.2.2.2.2.1 ≤ x) U U.heap) ∧ va_Z "java/lang/String" "COMPACT_STRINGS" "Z" (.int 1) (fun x => ω.2.2.2.2.1 ≤ x) U U.heap ∧
  (va_Z "jdk/internal/util/Preconditions" "SIOOBE_FORMATTER" "Ljava/util/function/BiFunction;" .null (fun x => ω.2.2.2.2.1 ≤ x) U U.heap ∨ ∃ q : Nat, va_Z "jdk/internal/util/Preconditions" "SIOOBE_FORMATTER" "Ljava/util/function/BiFunction;" (.ref q) (fun x => ω.2.2.2.2.1 ≤ x) U U.heap)
theorem pj_st_move {ω : pj_Wd} {s U : State} (h : pj_st ω s) (hR : vk_R "PegCoats$Scanner" 38 pj_lit ω.2.2.2.1 U) (hA : s.vm.Alike U.vm) (hh : ∀ a : Nat, a < s.heap.size → ¬ ω.2.2.2.2.1 ≤ a → U.heap[a]? = s.heap[a]?) : pj_st ω U := by
  obtain ⟨-, ⟨qv, h2⟩, h3, h4⟩ := h
  refine ⟨hR, ⟨qv, (h2.kept hh).moved hA⟩, (h3.kept hh).moved hA, ?_⟩
  rcases h4 with h4 | ⟨q, h4⟩
  · exact Or.inl ((h4.kept hh).moved hA)
  · exact Or.inr ⟨q, (h4.kept hh).moved hA⟩
/-- what holds in a body: the machine, the code, the words, the classes; the script and the literal lie below -/
def pj_X (ω : pj_Wd) (p : Program) (R : Room) (s : State) (m : MethodId) (args : Array Value) (c : Code) (bytes : ByteArray) (nL own : Nat) : Prop :=
  p.tables.exec = Jvm.exec ∧ c.code = bytes ∧ c.maxLocals = nL ∧ s.vm.findClass (cn own) = some m.cls ∧ (∀ w ∈ pj_tbl, w.before args s = true) ∧ va_K ω.1 pj_cl (pj_tys ω) s ∧ ω.2.2.2.2.1 ≤ s.heap.size ∧
  (va_X ω.2.2.1 ω.2.2.2.2.2.1 ω.2.2.2.2.2.2 s s.heap ∧ ω.2.2.1 < ω.2.2.2.2.1 ∧ ω.2.2.1 < s.heap.size) ∧ 64 ≤ R.locals ∧ 1 ≤ R.frames ∧ pj_st ω s
/-- the world at a place of the walk -/
def pj_wd (ω : pj_Wd) (s : State) (Z : pj_Z) (I : Nat → Nat → Int32) (J : Nat → Nat → Int64) (H : Heap) (locs : List Loc) (cells : Nat) : Prop :=
  pj_wf Z ∧ va_P ω.1 pj_cl (pj_wl ω Z I J) H ∧ s.heap.size + cells = ω.2.2.2.2.1 + (Z.1 - 2) ∧ va_S (fun x => ω.2.2.2.2.1 ≤ x) s.heap H locs ∧ Z.2.2.1 0 = ω.2.2.2.2.2.1 ∧ I 0 = ω.2.2.2.2.2.2
def pj_W (ω : pj_Wd) (p : Program) (l : Launch) (e : Env) (R : Room) (s : State) (m : MethodId) (args : Array Value) (below : List Frame) (meth : Method) (c : Code) (nL : Nat) (QW : State → Prop) : pj_G := fun pc L st Z I J bc bs =>
  ∀ (H : Heap) (locs : List Loc) (ls : Array Slot) (cells slots : Nat), pj_wd ω s Z I J H locs cells → cells + bc = R.cells → slots + bs = R.slots → pj_lr ω ls nL L → W p l e R s m args below meth c H locs cells slots QW (F0 m pc ls (st.map (pj_cv ω)))
theorem pj_c_e {b : Bool} {K : Prop} (h : pj_c b K) : b = true ∧ K := by cases b <;> first | exact h.elim | exact ⟨rfl, h⟩
theorem pj_pI_e {st : List Value} {k : Int32 → List Value → Prop} (h : pj_pI st k) : ∃ x r, st = .int x :: r ∧ k x r := by
  rcases st with _ | ⟨v, r⟩
  · exact h.elim
  · cases v <;> first | exact ⟨_, _, rfl, h⟩ | exact h.elim
theorem pj_pL_e {st : List Value} {k : Int64 → List Value → Prop} (h : pj_pL st k) : ∃ x r, st = .long x :: r ∧ k x r := by
  rcases st with _ | ⟨v, r⟩
  · exact h.elim
  · cases v <;> first | exact ⟨_, _, rfl, h⟩ | exact h.elim
theorem pj_pR_e {st : List Value} {k : Nat → List Value → Prop} (h : pj_pR st k) : ∃ x r, st = .ref x :: r ∧ k x r := by
  rcases st with _ | ⟨v, r⟩
  · exact h.elim
  · cases v <;> first | exact ⟨_, _, rfl, h⟩ | exact h.elim
theorem pj_pV_e {st : List Value} {k : Value → List Value → Prop} (h : pj_pV st k) : ∃ v r, st = v :: r ∧ v.category = 1 ∧ k v r := by
  rcases st with _ | ⟨v, r⟩
  · exact h.elim
  · cases v <;> first | exact ⟨_, _, rfl, rfl, h⟩ | exact h.elim
theorem pj_gI_e {L : pj_L} {i : Nat} {k : Int32 → Prop} (h : pj_gI L i k) : ∃ x, L[i]? = some (some (.int x)) ∧ k x := by
  unfold pj_gI at h
  rcases e : L[i]? with _ | _ | v
  · rw [e] at h; exact h.elim
  · rw [e] at h; exact h.elim
  · rw [e] at h
    cases v <;> first | exact ⟨_, rfl, h⟩ | exact h.elim
theorem pj_gL_e {L : pj_L} {i : Nat} {k : Int64 → Prop} (h : pj_gL L i k) : ∃ x, L[i]? = some (some (.long x)) ∧ k x := by
  unfold pj_gL at h
  rcases e : L[i]? with _ | _ | v
  · rw [e] at h; exact h.elim
  · rw [e] at h; exact h.elim
  · rw [e] at h
    cases v <;> first | exact ⟨_, rfl, h⟩ | exact h.elim
theorem pj_gR_e {L : pj_L} {i : Nat} {k : Nat → Prop} (h : pj_gR L i k) : ∃ x, L[i]? = some (some (.ref x)) ∧ k x := by
  unfold pj_gR at h
  rcases e : L[i]? with _ | _ | v
  · rw [e] at h; exact h.elim
  · rw [e] at h; exact h.elim
  · rw [e] at h
    cases v <;> first | exact ⟨_, rfl, h⟩ | exact h.elim
/-- the length of an instruction -/
def pj_len : Instr → Nat
  | .aload _ => 2
  | .iload _ => 2
  | .lload _ => 2
  | .astore _ => 2
  | .istore _ => 2
  | .lstore _ => 2
  | .iinc _ _ => 3
  | .bipush _ => 2
  | .sipush _ => 3
  | .ldc _ => 2
  | .ldc_w _ => 3
  | .ldc2_w _ => 3
  | .if_icmp _ _ => 3
  | .ifCond _ _ => 3
  | .goto _ => 3
  | .getfield _ => 3
  | .putfield _ => 3
  | .newarray _ => 2
  | .anewarray _ => 3
  | .multianewarray _ _ => 4
  | .new _ => 3
  | .invokevirtual _ => 3
  | .invokespecial _ => 3
  | .invokestatic _ => 3
  | _ => 1
def pj_fin (ci slot : Nat) : Bool := match pj_cl[ci]? with
  | none => true
  | some r => (r.2.1 slot).2.2.2
def pj_isS : Instr → Bool
  | .tableswitch _ _ _ _ => true
  | .lookupswitch _ _ => true
  | _ => false
/-- the rows of a switch, as the instruction tells them -/
def pj_swT (pc : Nat) (lo : Int) : List Int → List (Int32 × Nat)
  | [] => []
  | o :: os => (Int32.ofInt lo, ((pc : Int) + o).toNat) :: pj_swT pc (lo + 1) os
def pj_swL (pc : Nat) : List (Int × Int) → List (Int32 × Nat)
  | [] => []
  | o :: os => (Int32.ofInt o.1, ((pc : Int) + o.2).toNat) :: pj_swL pc os
/-- a call's numbers fit the method -/
noncomputable def pj_okV (kind x y z : Nat) : Bool := match Nat.ble 1000 x with
  | true => true
  | false => (match tm x with
    | none => false
    | some t => Nat.beq (mp x).2 kind && Nat.beq y ((mp x).1 + (match kind with
      | 1 => 0
      | _ => 1)) && (Nat.beq kind 1 || Nat.beq z t.2.1.1) && (Nat.beq kind 2 || (Nat.beq (ta x).1 0 && Nat.beq (ta x).2 0)))
/-- an instruction's row is in order -/
noncomputable def pj_okE (own : Nat) (ini : Bool) (rk : Nat) (pc : Nat) (e : pj_E) : Bool :=
  Nat.beq e.2.2.1 (pc + e.2.1) && (pj_isS e.1 || Nat.beq e.2.1 (pj_len e.1)) && (match e.1 with
  | .iconst v => decide (Int32.ofInt v = e.2.2.2.2.1)
  | .bipush v => decide ((Int8.ofInt v).toInt32 = e.2.2.2.2.1)
  | .sipush v => decide ((Int16.ofInt v).toInt32 = e.2.2.2.2.1)
  | .iinc _ v => decide (Int32.ofInt v = e.2.2.2.2.1)
  | .lconst v => decide (Int64.ofNat v.val = e.2.2.2.2.2.1)
  | .ldc k => (match e.2.2.2.1.2.2 with
    | 0 => cpI.any fun q => Nat.beq q.1 own && Nat.beq q.2.1 k && decide (q.2.2.1 = e.2.2.2.2.1)
    | _ => Nat.beq own 6 && Nat.beq k 38)
  | .ldc_w k => cpI.any fun q => Nat.beq q.1 own && Nat.beq q.2.1 k && decide (q.2.2.1 = e.2.2.2.2.1)
  | .ldc2_w k => cpL.any fun q => Nat.beq q.1 own && Nat.beq q.2.1 k && decide (q.2.2.1 = e.2.2.2.2.2.1)
  | .goto o => decide ((pc : Int) + o = (e.2.2.2.1.1 : Int))
  | .if_icmp _ o => decide ((pc : Int) + o = (e.2.2.2.1.1 : Int))
  | .ifCond _ o => decide ((pc : Int) + o = (e.2.2.2.1.1 : Int))
  | .getfield k => cpF.any fun q => Nat.beq q.1 own && Nat.beq q.2.1 k && Nat.beq q.2.2.1 e.2.2.2.1.1 && Nat.beq q.2.2.2.1 e.2.2.2.1.2.1 && Nat.beq q.2.2.2.2.1 e.2.2.2.1.2.2
  | .putfield k => cpF.any fun q => Nat.beq q.1 own && Nat.beq q.2.1 k && Nat.beq q.2.2.1 e.2.2.2.1.1 && Nat.beq q.2.2.2.1 e.2.2.2.1.2.1 && Nat.beq q.2.2.2.2.1 e.2.2.2.1.2.2 && (!pj_fin e.2.2.2.1.1 e.2.2.2.1.2.1 || (ini && Nat.beq own e.2.2.2.1.1 && !q.2.2.2.2.2.2))
  | .new k => (cpC.any fun q => Nat.beq q.1 own && Nat.beq q.2.1 k && Nat.beq q.2.2.1 e.2.2.2.1.1) && Nat.beq e.2.2.2.1.2.1 (pj_nf e.2.2.2.1.1) && Nat.blt e.2.2.2.1.1 13
  | .newarray a => (match a with
    | .int => Nat.beq e.2.2.2.1.1 13
    | .long => Nat.beq e.2.2.2.1.1 14
    | .boolean => Nat.beq e.2.2.2.1.1 15
    | _ => false)
  | .anewarray k => Nat.beq own 1 && Nat.beq k 9
  | .multianewarray k d => ((Nat.beq own 2 && Nat.beq k 9) || (Nat.beq own 9 && Nat.beq k 26)) && Nat.beq d 2
  | .invokevirtual k => (cpM.any fun q => Nat.beq q.1 own && Nat.beq q.2.1 k && Nat.beq q.2.2.1 e.2.2.2.1.1) && pj_okV 0 e.2.2.2.1.1 e.2.2.2.1.2.1 e.2.2.2.1.2.2
  | .invokespecial k => (cpM.any fun q => Nat.beq q.1 own && Nat.beq q.2.1 k && Nat.beq q.2.2.1 e.2.2.2.1.1) && pj_okV 2 e.2.2.2.1.1 e.2.2.2.1.2.1 e.2.2.2.1.2.2
  | .invokestatic k => (cpM.any fun q => Nat.beq q.1 own && Nat.beq q.2.1 k && Nat.beq q.2.2.1 e.2.2.2.1.1) && pj_okV 1 e.2.2.2.1.1 e.2.2.2.1.2.1 e.2.2.2.1.2.2
  | .tableswitch d lo hi os => decide ((pc : Int) + d = (e.2.2.2.1.1 : Int)) && decide (e.2.2.2.2.2.2 = pj_swT pc lo os.toList) && decide (hi = lo + os.size - 1) && decide (-1000000 < lo) && decide (hi < 1000000) && os.toList.all (fun o => decide (0 ≤ (pc : Int) + o))
  | .lookupswitch d ps => decide ((pc : Int) + d = (e.2.2.2.1.1 : Int)) && decide (e.2.2.2.2.2.2 = pj_swL pc ps.toList) && (ps.toList.zip (ps.toList.drop 1)).all (fun (a, next) => decide (a.1 < next.1)) && ps.toList.all (fun o => decide (0 ≤ (pc : Int) + o.2) && decide (-1000000 < o.1) && decide (o.1 < 1000000))
  | .ireturn => Nat.beq rk 1 || Nat.beq rk 3
  | .lreturn => Nat.beq rk 2
  | .return_ => Nat.beq rk 0
  | _ => true)
/-- 0 nothing, 1 int, 2 long, 3 boolean -/
def pj_rk : Option FieldType → Nat
  | none => 0
  | some .int => 1
  | some .long => 2
  | some .boolean => 3
  | _ => 9
noncomputable def pj_oM (own : Nat) (ini : Bool) (rk : Nat) (c : Nat × List (Nat × pj_E)) : Bool := c.2.all fun q => pj_okE own ini rk q.1 q.2

theorem pj_lk_mem {pc : Nat} {e : pj_E} : ∀ {c : List (Nat × pj_E)}, pj_lk pc c = some e → (pc, e) ∈ c
  | [], h => by cases h
  | q :: r, h => by
    unfold pj_lk at h
    cases hb : Nat.beq pc q.1 with
    | true =>
      rw [hb] at h
      have h1 : pc = q.1 := Nat.eq_of_beq_eq_true hb
      cases h
      rw [h1]
      exact List.mem_cons_self
    | false =>
      rw [hb] at h
      exact List.mem_cons_of_mem _ (pj_lk_mem h)
theorem pj_at_mem {pc : Nat} {e : pj_E} : ∀ {M : pj_M}, pj_at pc M = some e → ∃ c ∈ M, (pc, e) ∈ c.2
  | [], h => by cases h
  | q :: r, h => by
    unfold pj_at at h
    cases hb : Nat.ble pc q.1 with
    | true =>
      rw [hb] at h
      exact ⟨q, List.mem_cons_self, pj_lk_mem h⟩
    | false =>
      rw [hb] at h
      obtain ⟨c, h1, h2⟩ := pj_at_mem h
      exact ⟨c, List.mem_cons_of_mem _ h1, h2⟩
