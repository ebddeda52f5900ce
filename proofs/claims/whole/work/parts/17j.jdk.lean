/-! String.charAt of the literal -/
def pj_Qj (r : Option Value) : Array Value → State → Outcome → State → Prop := fun _ st oc t => oc = .returned r ∧ t.heap = st.heap
/-- the literal, with its array's cell -/
def pj_sv (ω : pj_Wd) (qv : Nat) (U : State) : Prop := pj_st ω U ∧ vk_S 1 [132] [pj_by] (fun _ => ω.2.2.2.1) (fun _ => qv) (fun x => ω.2.2.2.2.1 ≤ x) U U.heap
theorem pj_sv_move {ω : pj_Wd} {qv : Nat} {s U : State} (h : pj_sv ω qv s) (hR : vk_R "PegCoats$Scanner" 38 pj_lit ω.2.2.2.1 U) (hA : s.vm.Alike U.vm) (hh : ∀ a : Nat, a < s.heap.size → ¬ ω.2.2.2.2.1 ≤ a → U.heap[a]? = s.heap[a]?) : pj_sv ω qv U :=
  ⟨pj_st_move h.1 hR hA hh, (h.2.kept hh).moved hA⟩
theorem pj_bj (ω : pj_Wd) (qv : Nat) (as : List Value) : FrameBlind (va_Pc as (pj_sv ω qv)) := by
  intro a U g mk q
  exact ⟨q.1, pj_sv_move q.2 (vk_R.same (u := U) rfl q.2.1.1) (Vm.Alike.refl U.vm) (fun _ _ _ => rfl)⟩
def pj_Xj (ω : pj_Wd) (qv : Nat) (p : Program) (s : State) (m : MethodId) (args : Array Value) (c : Code) (bytes : ByteArray) (nL : Nat) (own : String) : Prop :=
  p.tables.exec = Jvm.exec ∧ c.code = bytes ∧ c.maxLocals = nL ∧ s.vm.findClass own = some m.cls ∧ (∀ w ∈ pj_tbl, w.before args s = true) ∧ pj_sv ω qv s
abbrev pj_wj (y : MethodName) (bytes : ByteArray) (maxL : Nat) (ret : Option FieldType) : List Cond := Cond.code y bytes maxL ret :: pj_tbl
abbrev pj_rj (d : Nat) : Room := { frames := d, cells := 0, slots := 0, locals := 64 * d }
theorem pj_jm {l : Launch} {ω : pj_Wd} {qv : Nat} {y : MethodName} {bytes : ByteArray} {maxL d : Nat} {ret : Option FieldType} {as : List Value} {r : Option Value} (hpl : plainName y.cls = true) (hn : (lg_sl as).length ≤ maxL)
    (walk : ∀ (p : Program) (e : Env) (s : State) (m : MethodId) (below : List Frame) (meth : Method) (c : Code) (ls : Array Slot), pj_Xj ω qv p s m as.toArray c bytes maxL y.cls → meth.sig.returnType = ret → meth.locks = false → lv_has ls maxL (lv_args 0 as) → W p l e (pj_rj d) s m as.toArray below meth c s.heap [] 0 0 (MQ below (pj_Qj r) as.toArray s 0 0 (fun _ => False)) (F0 m 0 ls [])) :
    Met l y (pj_wj y bytes maxL ret) (pj_rj d) (va_Pc as (pj_sv ω qv)) (pj_Qj r) 0 0 (fun _ => False) := by
  refine Met.ofW (cc := bytes) (maxL := maxL) (ret := ret) hpl rfl ?_
  intro p e s m args below meth c s₁ B hml hv
  obtain ⟨hargs, hst⟩ := hv
  subst hargs
  have hts0 := atoms_spec (ws := pj_wj y bytes maxL ret) B.pre
  rw [lg_entry_eq]
  exact walk p e s m below meth c _ ⟨B.exec, B.bytes, hml, findClass_of_methodNamed B.named, fun w hw => hts0 w (List.mem_cons_of_mem _ hw), hst⟩ B.returns B.notSynchronized (lv_entry as hn)
section PJ
variable {ω : pj_Wd} {qv : Nat} {p : Program} {l : Launch} {e : Env} {R : Room} {s : State} {m : MethodId} {args : Array Value} {below : List Frame} {meth : Method} {c : Code} {nL : Nat} {QW : State → Prop} {bytes : ByteArray} {own : String} {pc d : Nat} {H : Heap} {locs : List Loc} {ls : Array Slot} {cells slots : Nat} {rest st0 : List Value}
theorem pj_jback {r : Option Value} {a : Array Value} (hr : va_Run p l e R s m args below meth c H locs cells slots 0 0 (F0 m pc ls st0) rest (pj_Qj r a) (fun _ => False)) (kk : W p l e R s m args below meth c H locs cells slots QW (F0 m (pc + 3) ls (r.toList ++ rest))) : W p l e R s m args below meth c H locs cells slots QW (F0 m pc ls st0) := by
  intro T hT X
  obtain ⟨v, st₀, t, T', L, h0, X', hL, e1, e2, ⟨hv, hh⟩, st⟩ := hr T hT X
  have hv : v = r := Outcome.returned.inj hv
  subst hv
  have hL0 : L = [] := List.eq_nil_iff_forall_not_mem.mpr (fun q hq => hL q hq)
  subst hL0
  rw [List.append_nil] at X'
  obtain ⟨t2, a1, b1⟩ := kk T' (by rw [e1, hh, h0]) X'
  exact ⟨t2, st t2 a1, b1⟩
theorem pj_jcB (X : pj_Xj ω qv p s m args c bytes nL own) {y : MethodName} {b2 : ByteArray} {maxL n k : Nat} {ret : Option FieldType} (hR1 : d + 1 ≤ R.frames) (hR2 : 8 + (maxL + 11) + 64 * d ≤ R.locals) (hcode : Cond.code y b2 maxL ret ∈ pj_tbl) (hini : Cond.initialized y.cls ∈ pj_tbl) (hy1 : y.cls ≠ "java/lang/invoke/MethodHandle") (hy2 : y.cls ≠ "java/lang/invoke/VarHandle")
    (hpar : (parseMethodDescriptor y.desc).map (fun d => d.parameters.length) = some n) (hl : Cond.methodLink own k y ∈ pj_tbl) : CallB R s args own k y b2 maxL ret (pj_wj y b2 maxL ret) (pj_rj d) 0 0 n := by
  have hts := X.2.2.2.2.1
  refine ⟨rfl, rfl, hR1, hR2, fun w hw => ?_, List.mem_cons_self, hts _ hcode, hts _ hini, ⟨hy1, hy2⟩, fun sig h => ?_, hts _ hl⟩
  · rcases List.mem_cons.mp hw with rfl | hw
    · exact pj_pay hts _ hcode
    · exact pj_pay hts _ hw
  · rw [h] at hpar
    exact (Option.some.inj hpar).symm
theorem pj_jst (X : pj_Xj ω qv p s m args c bytes nL own) (hS : va_S (fun x => ω.2.2.2.2.1 ≤ x) s.heap H locs) (as : List Value) : ∀ U : State, U.heap = H → s.WarmedH U.vm → va_Pc as (pj_sv ω qv) as.toArray U := by
  intro U hU hW
  have hs := X.2.2.2.2.2
  exact ⟨rfl, pj_sv_move hs (vk_R.warm hW hs.1.1) hW.alike (fun a h1 h2 => by rw [hU]; exact hS.2.1 a h1 h2)⟩
theorem pj_jS (X : pj_Xj ω qv p s m args c bytes nL own) (hS : va_S (fun x => ω.2.2.2.2.1 ≤ x) s.heap H locs) {y : MethodName} {b2 : ByteArray} {maxL n k : Nat} {ret : Option FieldType} {r : Option Value} {As : List Value} (hM : Met l y (pj_wj y b2 maxL ret) (pj_rj d) (va_Pc As (pj_sv ω qv)) (pj_Qj r) 0 0 (fun _ => False))
    (hR1 : d + 1 ≤ R.frames) (hR2 : 8 + (maxL + 11) + 64 * d ≤ R.locals) (hcode : Cond.code y b2 maxL ret ∈ pj_tbl) (hini : Cond.initialized y.cls ∈ pj_tbl) (hy1 : y.cls ≠ "java/lang/invoke/MethodHandle") (hy2 : y.cls ≠ "java/lang/invoke/VarHandle")
    (hpar : (parseMethodDescriptor y.desc).map (fun d => d.parameters.length) = some n) (hl : Cond.methodLink own k y ∈ pj_tbl) (hstat : Cond.static y ∈ pj_tbl) (hn : As.length = n) (hls : ls.size = nL) (hrest : (rest.map fun v => v.category).sum ≤ 8) (hc : cells ≤ R.cells) (hsl : slots ≤ R.slots)
    (hd : decode bytes pc = .ok (.invokestatic k, 3)) {stk : List Value} (hstk : stk = As.reverse ++ rest) (kk : W p l e R s m args below meth c H locs cells slots QW (F0 m (pc + 3) ls (r.toList ++ rest))) : W p l e R s m args below meth c H locs cells slots QW (F0 m pc ls stk) := by
  subst hstk
  exact pj_jback (va_runS (As := As) (rest := rest) ⟨X.1, X.2.1, X.2.2.1, X.2.2.2.1, X.2.2.2.2.1⟩ hM ⟨pj_jcB X hR1 hR2 hcode hini hy1 hy2 hpar hl, X.2.2.2.2.1 _ hstat⟩ ⟨pj_bj _ _ _, pj_jst X hS As⟩ rfl hn hls rfl (lv_room hrest) hd ⟨hc, hsl⟩) kk
theorem pj_jV (X : pj_Xj ω qv p s m args c bytes nL own) (hS : va_S (fun x => ω.2.2.2.2.1 ≤ x) s.heap H locs) {y : MethodName} {b2 : ByteArray} {maxL n k : Nat} {ret : Option FieldType} {r : Option Value} {As : List Value} (hM : Met l y (pj_wj y b2 maxL ret) (pj_rj d) (va_Pc (.ref ω.2.2.2.1 :: As) (pj_sv ω qv)) (pj_Qj r) 0 0 (fun _ => False))
    (hR1 : d + 1 ≤ R.frames) (hR2 : 8 + (maxL + 11) + 64 * d ≤ R.locals) (hcode : Cond.code y b2 maxL ret ∈ pj_tbl) (hini : Cond.initialized y.cls ∈ pj_tbl) (hy1 : y.cls ≠ "java/lang/invoke/MethodHandle") (hy2 : y.cls ≠ "java/lang/invoke/VarHandle")
    (hpar : (parseMethodDescriptor y.desc).map (fun d => d.parameters.length) = some n) (hl : Cond.methodLink own k y ∈ pj_tbl) (hin : Cond.instanceMethod y ∈ pj_tbl) (hse : Cond.selects "java/lang/String" y y ∈ pj_tbl) (hn : As.length = n) (hls : ls.size = nL) (hrest : (rest.map fun v => v.category).sum ≤ 8) (hc : cells ≤ R.cells) (hsl : slots ≤ R.slots)
    (hd : decode bytes pc = .ok (.invokevirtual k, 3)) {stk : List Value} (hstk : stk = As.reverse ++ .ref ω.2.2.2.1 :: rest) (kk : W p l e R s m args below meth c H locs cells slots QW (F0 m (pc + 3) ls (r.toList ++ rest))) : W p l e R s m args below meth c H locs cells slots QW (F0 m pc ls stk) := by
  subst hstk
  have hs := X.2.2.2.2.2.2
  exact pj_jback (va_runV (As := As) (rest := rest) (C := "java/lang/String") ⟨X.1, X.2.1, X.2.2.1, X.2.2.2.1, X.2.2.2.2.1⟩ hM ⟨pj_jcB X hR1 hR2 hcode hini hy1 hy2 hpar hl, X.2.2.2.2.1 _ hin, X.2.2.2.2.1 _ hse⟩ ⟨pj_bj _ _ _, vk_recv hs (i := 0) (by decide) hS, pj_jst X hS (.ref ω.2.2.2.1 :: As)⟩ rfl hn hls rfl (lv_room hrest) hd ⟨hc, hsl⟩) kk
end PJ
section PK
variable {l : Launch} {ω : pj_Wd} {qv : Nat}
abbrev jy1 : MethodName := ⟨"jdk/internal/util/Preconditions", "checkIndex", "(IILjava/util/function/BiFunction;)I"⟩
abbrev jy2 : MethodName := ⟨"java/lang/String", "checkIndex", "(II)V"⟩
abbrev jy3 : MethodName := ⟨"java/lang/StringLatin1", "charAt", "([BI)C"⟩
abbrev jy4 : MethodName := ⟨"java/lang/String", "isLatin1", "()Z"⟩
abbrev jy5 : MethodName := ⟨"java/lang/String", "charAt", "(I)C"⟩
theorem jw_1 {i n : Int32} (h1 : ¬ i < 0) (h2 : i < n) (v : Value) (hv : v = .null ∨ ∃ q, v = .ref q) : Met l jy1 (pj_wj jy1 prog_21_method_11_code 3 (some .int)) (pj_rj 1) (va_Pc [.int i, .int n, v] (pj_sv ω qv)) (pj_Qj (some (.int i))) 0 0 (fun _ => False) := by
  refine pj_jm (by decide) (by rcases hv with rfl | ⟨q, rfl⟩ <;> exact Nat.le_refl 3) (fun p e s m below meth c ls X hr hlk hl => ?_)
  have l0 : ls[0]? = some (.val (.int i)) := lv_at hl 0 rfl
  have l1 : ls[1]? = some (.val (.int n)) := lv_at hl 1 rfl
  refine lv_iload_n X.1 X.2.1 (k := 0) (by decide +kernel) rfl l0 ?_
  refine lv_if_lt (tgt := 9) (off := 8) X.1 X.2.1 (by decide +kernel) (by decide) (fun q => absurd q h1) (fun _ => ?_)
  refine lv_iload_n X.1 X.2.1 (k := 0) (by decide +kernel) rfl l0 ?_
  refine lv_iload_n X.1 X.2.1 (k := 1) (by decide +kernel) rfl l1 ?_
  refine lv_icmp_lt (tgt := 16) (off := 10) X.1 X.2.1 (by decide +kernel) (by decide) (fun _ => ?_) (fun q => absurd h2 q)
  refine lv_iload_n X.1 X.2.1 (k := 0) (by decide +kernel) rfl l0 ?_
  exact W.iret X.1 X.2.1 hr (fun t ht _ => ⟨rfl, ht⟩) (fun q h => by cases h) (by decide +kernel)
theorem jw_2 {i n : Int32} (h1 : ¬ i < 0) (h2 : i < n) : Met l jy2 (pj_wj jy2 prog_17_method_155_code 2 none) (pj_rj 2) (va_Pc [.int i, .int n] (pj_sv ω qv)) (pj_Qj none) 0 0 (fun _ => False) := by
  refine pj_jm (by decide) (Nat.le_refl 2) (fun p e s m below meth c ls X hr hlk hl => ?_)
  have l0 : ls[0]? = some (.val (.int i)) := lv_at hl 0 rfl
  have l1 : ls[1]? = some (.val (.int n)) := lv_at hl 1 rfl
  refine lv_iload_n X.1 X.2.1 (k := 0) (by decide +kernel) rfl l0 ?_
  refine lv_iload_n X.1 X.2.1 (k := 1) (by decide +kernel) rfl l1 ?_
  have tail : ∀ v : Value, (v = .null ∨ ∃ q, v = .ref q) → va_Z "jdk/internal/util/Preconditions" "SIOOBE_FORMATTER" "Ljava/util/function/BiFunction;" v (fun x => ω.2.2.2.2.1 ≤ x) s s.heap → W p l e (pj_rj 2) s m [Value.int i, Value.int n].toArray below meth c s.heap [] 0 0 (MQ below (pj_Qj none) [Value.int i, Value.int n].toArray s 0 0 (fun _ => False)) (F0 m 2 ls [.int n, .int i]) := by
    intro v hv hZ
    refine va_gets X.1 X.2.1 (index := 1053) hZ va_S.rf X.2.2.2.1 (X.2.2.2.2.1 _ (pj_tb1 (k := 172) (by decide +kernel))) (fun x h => h) (by decide +kernel) ?_
    refine pj_jS X va_S.rf (jw_1 h1 h2 v hv) (k := 1059) (rest := []) (n := 3) (by decide) (by decide) (pj_tb1 (k := 176) (by rfl)) (pj_tb1 (k := 8) (by decide +kernel)) (by decide) (by decide) (by decide +kernel) (pj_tb1 (k := 174) (by decide +kernel)) (pj_tb1 (k := 175) (by decide +kernel)) rfl hl.1 (by decide) (by decide) (by decide) (by decide +kernel) rfl ?_
    refine lv_pop X.1 X.2.1 (by decide +kernel) rfl ?_
    exact W.vret X.1 X.2.1 hr (fun t ht _ => ⟨rfl, ht⟩) (fun q h => by cases h) (by decide +kernel)
  rcases X.2.2.2.2.2.1.2.2.2 with h | ⟨q, h⟩
  · exact tail .null (Or.inl rfl) h
  · exact tail (.ref q) (Or.inr ⟨q, rfl⟩) h
theorem pj_litc : ∀ j, j < 132 → (((pj_by.getD j 0) &&& 255).toUInt32 % 65536).toInt32 = pj_ow pj_lit j ∧ narrow .char (.int (pj_ow pj_lit j)) = .int (pj_ow pj_lit j) := by decide +kernel
theorem jw_3 {i : Int32} (hi : vp_in i 132) (h2 : i < 132) : Met l jy3 (pj_wj jy3 prog_18_method_2_code 2 (some .char)) (pj_rj 3) (va_Pc [.ref qv, .int i] (pj_sv ω qv)) (pj_Qj (some (.int (pj_ow pj_lit i.toNatClampNeg)))) 0 0 (fun _ => False) := by
  have hlt : i.toNatClampNeg < 132 := Nat.not_le.mp fun q => hi (Or.inr q)
  have h1 : ¬ i < 0 := fun q => hi (Or.inl q)
  refine pj_jm (by decide) (Nat.le_refl 2) (fun p e s m below meth c ls X hr hlk hl => ?_)
  have l0 : ls[0]? = some (.val (.ref qv)) := lv_at hl 0 rfl
  have l1 : ls[1]? = some (.val (.int i)) := lv_at hl 1 rfl
  have hT := (X.2.2.2.2.2.2.1 0 (by decide)).2.2.2
  refine lv_iload_n X.1 X.2.1 (k := 1) (by decide +kernel) rfl l1 ?_
  refine lv_aload_n X.1 X.2.1 (k := 0) (by decide +kernel) rfl l0 ?_
  refine va_tlen X.1 X.2.1 hT va_S.rf (v := 132) (by decide) (by decide +kernel) ?_
  refine pj_jS X va_S.rf (jw_2 h1 h2) (k := 9) (rest := []) (n := 2) (by decide) (by decide) (pj_tb1 (k := 171) (by rfl)) (pj_tb1 (k := 6) (by decide +kernel)) (by decide) (by decide) (by decide +kernel) (pj_tb1 (k := 169) (by decide +kernel)) (pj_tb1 (k := 170) (by decide +kernel)) rfl hl.1 (by decide) (by decide) (by decide) (by decide +kernel) rfl ?_
  refine lv_aload_n X.1 X.2.1 (k := 0) (by decide +kernel) rfl l0 ?_
  refine lv_iload_n X.1 X.2.1 (k := 1) (by decide +kernel) rfl l1 ?_
  refine va_tb X.1 X.2.1 hT va_S.rf hi (v := .int (pj_by.getD i.toNatClampNeg 0)) rfl (by decide +kernel) ?_
  refine lv_sipush X.1 X.2.1 (n := 255) (v := 255) (by decide +kernel) (by decide) ?_
  refine lv_iand X.1 X.2.1 (by decide +kernel) ?_
  refine lv_i2c X.1 X.2.1 (by decide +kernel) (pj_litc _ hlt).1 ?_
  exact W.zret (ty := .char) X.1 X.2.1 hr (pj_litc _ hlt).2 (fun t ht _ => ⟨rfl, ht⟩) (fun q h => by cases h) (by decide +kernel)
theorem jw_4 : Met l jy4 (pj_wj jy4 prog_17_method_154_code 1 (some .boolean)) (pj_rj 1) (va_Pc [.ref ω.2.2.2.1] (pj_sv ω qv)) (pj_Qj (some (.int 1))) 0 0 (fun _ => False) := by
  refine pj_jm (by decide) (Nat.le_refl 1) (fun p e s m below meth c ls X hr hlk hl => ?_)
  have l0 : ls[0]? = some (.val (.ref ω.2.2.2.1)) := lv_at hl 0 rfl
  have hO := (X.2.2.2.2.2.2.1 0 (by decide)).2.1
  refine va_gets X.1 X.2.1 (index := 38) X.2.2.2.2.2.1.2.2.1 va_S.rf X.2.2.2.1 (X.2.2.2.2.1 _ (pj_tb1 (k := 164) (by decide +kernel))) (fun x h => h) (by decide +kernel) ?_
  refine lv_if_eq (tgt := 17) (off := 14) X.1 X.2.1 (by decide +kernel) (by decide) (fun q => absurd q (by decide)) (fun _ => ?_)
  refine lv_aload_n X.1 X.2.1 (k := 0) (by decide +kernel) rfl l0 ?_
  refine vk_getf X.1 X.2.1 (index := 15) hO va_S.rf X.2.2.2.1 (X.2.2.2.2.1 _ (pj_tb8 (k := 131) (by decide +kernel))) (fun x h => h) (by decide +kernel) ?_
  refine lv_if_ne (tgt := 17) (off := 7) X.1 X.2.1 (by decide +kernel) (by decide) (fun q => absurd rfl q) (fun _ => ?_)
  refine lv_iconst (n := 1) (v := 1) X.1 X.2.1 (by decide +kernel) (by decide) ?_
  refine lv_goto (off := 4) (tgt := 18) X.1 X.2.1 (by decide +kernel) (by decide) ?_
  exact W.zret (ty := .boolean) X.1 X.2.1 hr rfl (fun t ht _ => ⟨rfl, ht⟩) (fun q h => by cases h) (by decide +kernel)
theorem jw_5 {i : Int32} (hi : vp_in i 132) (h2 : i < 132) : Met l jy5 (pj_wj jy5 prog_17_method_56_code 2 (some .char)) (pj_rj 4) (va_Pc [.ref ω.2.2.2.1, .int i] (pj_sv ω qv)) (pj_Qj (some (.int (pj_ow pj_lit i.toNatClampNeg)))) 0 0 (fun _ => False) := by
  have hlt : i.toNatClampNeg < 132 := Nat.not_le.mp fun q => hi (Or.inr q)
  refine pj_jm (by decide) (Nat.le_refl 2) (fun p e s m below meth c ls X hr hlk hl => ?_)
  have l0 : ls[0]? = some (.val (.ref ω.2.2.2.1)) := lv_at hl 0 rfl
  have l1 : ls[1]? = some (.val (.int i)) := lv_at hl 1 rfl
  have hV := (X.2.2.2.2.2.2.1 0 (by decide)).2.2.1
  refine lv_aload_n X.1 X.2.1 (k := 0) (by decide +kernel) rfl l0 ?_
  refine pj_jV X va_S.rf jw_4 (As := []) (k := 492) (rest := []) (n := 0) (by decide) (by decide) (pj_tb1 (k := 163) (by rfl)) (pj_tb1 (k := 6) (by decide +kernel)) (by decide) (by decide) (by decide +kernel) (pj_tb1 (k := 160) (by decide +kernel)) (pj_tb1 (k := 161) (by decide +kernel)) (pj_tb1 (k := 162) (by decide +kernel)) rfl hl.1 (by decide) (by decide) (by decide) (by decide +kernel) rfl ?_
  refine lv_if_eq (tgt := 16) (off := 12) X.1 X.2.1 (by decide +kernel) (by decide) (fun q => absurd q (by decide)) (fun _ => ?_)
  refine lv_aload_n X.1 X.2.1 (k := 0) (by decide +kernel) rfl l0 ?_
  refine vk_getf X.1 X.2.1 (index := 9) hV va_S.rf X.2.2.2.1 (X.2.2.2.2.1 _ (pj_tb8 (k := 132) (by decide +kernel))) (fun x h => h) (by decide +kernel) ?_
  refine lv_iload_n X.1 X.2.1 (k := 1) (by decide +kernel) rfl l1 ?_
  refine pj_jS X va_S.rf (jw_3 hi h2) (k := 495) (rest := []) (n := 2) (by decide) (by decide) (pj_tb1 (k := 168) (by rfl)) (pj_tb1 (k := 7) (by decide +kernel)) (by decide) (by decide) (by decide +kernel) (pj_tb1 (k := 166) (by decide +kernel)) (pj_tb1 (k := 167) (by decide +kernel)) rfl hl.1 (by decide) (by decide) (by decide) (by decide +kernel) rfl ?_
  exact W.zret (ty := .char) X.1 X.2.1 hr (pj_litc _ hlt).2 (fun t ht _ => ⟨rfl, ht⟩) (fun q h => by cases h) (by decide +kernel)
end PK
section PT
variable {ω : pj_Wd} {p : Program} {l : Launch} {e : Env} {R : Room} {s : State} {m : MethodId} {args : Array Value} {below : List Frame} {meth : Method} {c : Code} {nL : Nat} {QW : State → Prop} {bytes : ByteArray} {pc : Nat} {Z : pj_Z} {I : Nat → Nat → Int32} {J : Nat → Nat → Int64} {H : Heap} {locs : List Loc} {ls : Array Slot} {cells slots : Nat} {rest : List Value}
theorem pj_chr (X : pj_X ω p R s m args c bytes nL 6) (hR1 : 8 ≤ R.frames) (hR2 : 512 ≤ R.locals) {i : Int32} (hd : decode bytes pc = .ok (.invokevirtual 40, 3)) (g : pj_wd ω s Z I J H locs cells) (hi : vp_in i 132) (hls : ls.size = nL) (hcc : cells ≤ R.cells) (hss : slots ≤ R.slots) (hrest : (rest.map fun v => v.category).sum ≤ 8)
    (kk : W p l e R s m args below meth c H locs cells slots QW (F0 m (pc + 3) ls (.int (pj_ow pj_lit i.toNatClampNeg) :: rest))) : W p l e R s m args below meth c H locs cells slots QW (F0 m pc ls (.int i :: .ref (pj_ad ω 1) :: rest)) := by
  have hst := X.2.2.2.2.2.2.2.2.2.2
  obtain ⟨qv, hqv⟩ := hst.2.1
  have hlt : i.toNatClampNeg < 132 := Nat.not_le.mp fun q => hi (Or.inr q)
  have h1 : ¬ i < 0 := fun q => hi (Or.inl q)
  have h2 : i < 132 := by
    rw [Int32.lt_iff_toInt_lt]
    have h3 : (0 : Int) ≤ i.toInt := by
      have := Int32.not_lt.mp h1
      simpa using Int32.le_iff_toInt_le.mp this
    have h4 : i.toInt.toNat < 132 := hlt
    show i.toInt < 132
    omega
  have XJ : pj_Xj ω qv p s m args c bytes nL "PegCoats$Scanner" := ⟨X.1, X.2.1, X.2.2.1, X.2.2.2.1, X.2.2.2.2.1, hst, hqv⟩
  exact pj_jV XJ g.2.2.2.1 (jw_5 hi h2) (As := [.int i]) (k := 40) (rest := rest) (n := 1) (by omega) (by omega) (pj_tb1 (k := 159) (by rfl)) (pj_tb1 (k := 6) (by decide +kernel)) (by decide) (by decide) (by decide +kernel) (pj_tb1 (k := 156) (by decide +kernel)) (pj_tb1 (k := 157) (by decide +kernel)) (pj_tb1 (k := 158) (by decide +kernel)) rfl hls hrest hcc hss hd rfl kk
end PT
