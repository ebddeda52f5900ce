/-! THE CLAIM OUT OF ONE WALK OF THE LAW'S BODY. Your part is whole_start (and what it stands on); all else here is the same for every law, but numbers. -/
def R_law : String := "PegCoatsLaw"
def lw_P (b : Addr) (xs : List Int32) (args : Array Value) (s : State) : Prop := args = #[.ref b] ∧ s.IntsAt b xs ∧ xs.length ≤ 3072 ∧ (Jvm.Cond.and given_1 narrow_1).before args s = true
def lw_Q (_ : Array Value) (s : State) (o : Outcome) (t : State) : Prop := o = .returned (some (.int 1)) ∧ Framed s o t [] 600000 7302250
def lw_Z (below : List Frame) (a : Array Value) (s : State) : State → Prop := fun t => ∃ o, t.status = .running ∧ Ended t below o ∧ lw_Q a s o t
/-- the law's own end, with 1 on the stack, nothing written that was there before, its room as the claim has it -/
theorem lw_ret {p : Program} {l : Launch} {e : Env} {s : State} {m : MethodId} {below : List Frame} {meth : Method} {c : Code} {b : Nat} (hx : p.tables.exec = Jvm.exec) (hb : c.code = code) (hr : meth.sig.returnType = ret) (hlocks : meth.locks = false) {pc : Nat} {H : Heap} {ls : Array Slot} (hdg : decode code pc = .ok (.ireturn, 1)) : W p l e room_1 s m #[Value.ref b] below meth c H [] 600000 7302250 (lw_Z below #[Value.ref b] s) (F0 m pc ls [.int 1]) := by
  intro T hT X
  obtain ⟨fs, hret, hrun, hended, hW, hframe⟩ := X.leave (v := some (.int 1)) (hlocks := hlocks) (fun h => by rw [hr] at h; cases h)
  have hmeth' : T.vm.method? m = some meth := X.method'
  refine ⟨T.setFrames fs, ?_, .returned (some (.int 1)), hrun, hended, rfl, ⟨_, rfl⟩, hW, hframe⟩
  jvm_step X.here [X.here.top, hx, hb, hdg, hmeth', hr, ret, narrow_b1]
  (try refine ⟨rfl, ?_⟩); (try refine ⟨rfl, ?_⟩)
  first | (intro acts; rw [hret _ acts rfl rfl rfl]) | rw [hret _ _ rfl rfl rfl]
  exact Steps.refl _
/-- what holds at the law's entry: the machine, the code, the tables' words (any of lw_tbl by 'hts w (by decide +kernel)'), the script of L ints xs at the cell b, what the Statement gives of the start (any of its parts by flat_of_before) -/
def lw_At (p : Program) (s : State) (m : MethodId) (meth : Method) (c : Code) (b L : Nat) (xs : Nat → Int32) : Prop :=
  p.tables.exec = Jvm.exec ∧ c.code = code ∧ meth.sig.returnType = ret ∧ c.maxLocals = 4 ∧ s.vm.findClass R_law = some m.cls ∧ (∀ w ∈ lw_tbl, w.before #[Value.ref b] s = true) ∧ va_X b L xs s s.heap ∧ b < s.heap.size ∧ meth.locks = false ∧ (Jvm.Cond.and given_1 narrow_1).before #[Value.ref b] s = true
/-! the law's entry -/
def pj_lp : List (List Nat) := [[259, 261, 263], [358, 360, 362], [376, 378, 380], [397, 399, 401, 403, 405], [470, 472, 474], [235, 237, 239, 241, 243, 245], [209, 211, 213, 215, 217, 219, 221, 223], [325, 327, 329, 331, 333, 335, 337, 339, 341], [41, 43], [434, 436, 438, 440, 442, 444, 446, 448, 450, 452, 454, 456], [108, 110, 112, 114, 116, 118, 120, 122, 124, 126, 128, 130, 132, 134, 136, 138, 140], [501, 503, 505, 507, 509, 511, 513, 515, 517, 519, 521, 523, 525, 527, 529, 531], [1229, 1231, 1233, 1235, 1237, 1239, 1241, 1243, 1245, 1247, 1249, 1251, 1253, 1255, 1257, 1259, 1261, 1263, 1265, 1267, 1269, 1271, 1273, 1275, 1277, 1279, 1281, 1283, 1285, 1287, 1289, 1291, 1293, 1295, 1297, 1299, 1301, 1303, 1305, 1307, 1309, 1311, 1313, 1315, 1317, 1319, 1321, 1323, 1325, 1327, 1329, 1331, 1333, 1335, 1337, 1339, 1341, 1343, 1345, 1347, 1349, 1351, 1353, 1355, 1357, 1359, 1361]]
def pj_ipl : List Nat := [249, 346, 366, 384, 460, 144, 150, 267, 30, 409, 48, 22, 1157]
def pj_lpc (c : Nat) (q : vw_C) : Bool := (List.range q.2.2).all (fun k => decide (tables_1[(pj_lp.getD c []).getD k 0]? = some (u_lay q.1 q.2.1 k)) && pj_gw (u_lay q.1 q.2.1 k)) && (decide (tables_1[pj_ipl.getD c 0]? = some (Cond.instantiable q.1 q.2.2)) && pj_gw (Cond.instantiable q.1 q.2.2))
set_option maxRecDepth 100000 in
theorem pj_lpok : (List.range 13).all (fun c => match pj_cl[c]? with | none => false | some q => pj_lpc c q) = true := by decide +kernel
theorem pj_known {s : State} {args : Array Value} (hts : ∀ w ∈ pj_tbl, w.before args s = true) : ∃ D : va_G, ∀ (c : Nat) (q : vw_C), pj_cl[c]? = some q → u_Kn s q.1 q.2.1 q.2.2 (D.1 c) (D.2 c) := by
  have h : ∀ c : Nat, ∃ d : ClassId × (Nat → Nat), ∀ q, pj_cl[c]? = some q → u_Kn s q.1 q.2.1 q.2.2 d.1 d.2 := by
    intro c
    cases hq : pj_cl[c]? with
    | none => exact ⟨((default : Nat), fun _ => 0), fun q h => by cases h⟩
    | some q =>
      have hc : c < 13 := (List.getElem?_eq_some_iff.mp hq).1
      have hall := List.all_eq_true.mp pj_lpok c (List.mem_range.mpr hc)
      rw [hq] at hall
      have hall : pj_lpc c q = true := hall
      unfold pj_lpc at hall
      rw [Bool.and_eq_true, Bool.and_eq_true, decide_eq_true_eq, List.all_eq_true] at hall
      obtain ⟨h1, h2, h3⟩ := hall
      obtain ⟨cC, iS, h⟩ := u_known (C := q.1) (T := q.2.1) (N := q.2.2) (n := q.2.2) hts (fun w hw => by
        obtain ⟨k, hk, rfl⟩ := List.mem_map.mp hw
        have h4 := h1 k hk
        rw [Bool.and_eq_true, decide_eq_true_eq] at h4
        exact pj_tb h4.1 h4.2) (hts _ (pj_tb h2 h3))
      exact ⟨(cC, iS), fun q' h' => by cases h'; exact h⟩
  obtain ⟨d, hd⟩ := Classical.axiomOfChoice h
  exact ⟨(fun c => (d c).1, fun c => (d c).2), hd⟩
theorem pj_arrs {s : State} {args : Array Value} (hts : ∀ w ∈ pj_tbl, w.before args s = true) : ∃ dA : Nat → ClassId, ∀ ω : pj_Wd, ω.2.1 = dA → ∀ (k : Nat) (q : ClassId × FieldType), (pj_tys ω)[k]? = some q → ArrOfT s q.1 q.2 ∧ va_RA s q.1 q.2 := by
  obtain ⟨c0, k0, m0, a0, b0, e0⟩ := Cond.arrayClass_spec (first := s) (o := none) (idx := []) (args := args) (hts (.arrayClass .int) (pj_tb (k := 46) (by decide +kernel)))
  obtain ⟨c1, k1, m1, a1, b1, e1⟩ := Cond.arrayClass_spec (first := s) (o := none) (idx := []) (args := args) (hts (.arrayClass .long) (pj_tb (k := 1364) (by decide +kernel)))
  obtain ⟨c2, k2, m2, a2, b2, e2⟩ := Cond.arrayClass_spec (first := s) (o := none) (idx := []) (args := args) (hts (.arrayClass .boolean) (pj_tb (k := 344) (by decide +kernel)))
  obtain ⟨m3, c3, k3, f3, -, b3, e3, a3⟩ := Cond.arrayOver_spec (first := s) (o := none) (idx := []) (args := args) (hts (.arrayOver (.object "PegCoats$State")) (pj_tb (k := 352) (by decide +kernel)))
  obtain ⟨m4, c4, k4, f4, b4, e4, a4⟩ := Cond.arrayOver_specA (first := s) (o := none) (idx := []) (args := args) (hts (.arrayOver (.array .int)) (pj_tb (k := 372) (by decide +kernel)))
  refine ⟨fun k => match k with | 0 => c0 | 1 => c1 | 2 => c2 | 3 => c3 | _ => c4, fun ω hω k q hq => ?_⟩
  unfold pj_tys at hq
  rw [hω] at hq
  rcases k with _ | _ | _ | _ | _ | k
  · cases hq; exact ⟨fun n z => ⟨(fun k h => by cases h), k0, b0, m0, e0⟩, a0⟩
  · cases hq; exact ⟨fun n z => ⟨(fun k h => by cases h), k1, b1, m1, e1⟩, a1⟩
  · cases hq; exact ⟨fun n z => ⟨(fun k h => by cases h), k2, b2, m2, e2⟩, a2⟩
  · cases hq; exact ⟨fun n z => ⟨(fun k h => by cases h), k3, b3, m3, e3⟩, k3, m3, b3, e3, f3, a3⟩
  · cases hq; exact ⟨fun n z => ⟨(fun k h => by cases h), k4, b4, m4, e4⟩, a4⟩
  · cases hq
abbrev pj_str : Term := .string "PegCoats$Scanner" 38
set_option maxRecDepth 100000 in
theorem pj_elC : ∀ j, j < 132 → Cond.eq (.elem (.field pj_str "java/lang/String" "value" "[B") (.int (Int32.ofNat j))) (.int (pj_by.getD j 0)) ∈ flatC (Jvm.Cond.and given_1 narrow_1) := by decide +kernel
theorem pj_begin {p : Program} {s : State} {m : MethodId} {meth : Method} {c : Code} {b L : Nat} {xs : Nat → Int32} (C0 : lw_At p s m meth c b L xs) : ∃ ω : pj_Wd, ω.2.2.1 = b ∧ ω.2.2.2.2.1 = s.heap.size ∧ ω.2.2.2.2.2.1 = L ∧ ω.2.2.2.2.2.2 = xs ∧ ∀ R : Room, 64 ≤ R.locals → 1 ≤ R.frames → pj_X ω p R s m #[.ref b] c code 4 13 := by
  obtain ⟨hx, hb, hr, hml, hown, htl, hX, hbl, hlk, hgv⟩ := C0
  have hts : ∀ w ∈ pj_tbl, w.before #[Value.ref b] s = true := fun w hw => htl w (List.mem_filter.mp hw).1
  obtain ⟨D, hD⟩ := pj_known hts
  obtain ⟨dA, hA⟩ := pj_arrs hts
  have hs := flat_of_before _ hgv
  have hAA : ∀ a : Nat, a < s.heap.size → ¬ s.heap.size ≤ a := fun a h q => absurd h (Nat.not_lt.mpr q)
  obtain ⟨adK, adV, hS, hK⟩ := vk_Sof (args := #[Value.ref b]) (s := s) (N := 1) (tm := fun _ => pj_str) (len := [132]) (byt := [pj_by]) (A := fun x => s.heap.size ≤ x)
    (fun i hi => by obtain rfl : i = 0 := by omega
                    decide)
    (fun i hi => hs _ (by decide +kernel)) (fun i hi => hs _ (by decide +kernel)) (fun i hi => hs _ (by decide +kernel))
    (fun i hi => by obtain rfl : i = 0 := by omega
                    exact hs _ (by decide +kernel))
    (fun i hi j hj => by obtain rfl : i = 0 := by omega
                         exact hs _ (pj_elC j hj))
    (fun i j hi hj hij => absurd (by omega) hij) hAA
  refine ⟨(D, dA, b, adK 0, s.heap.size, L, xs), rfl, rfl, rfl, rfl, fun R h1 h2 => ⟨hx, hb, hml, hown, hts, ⟨hD, hA _ rfl⟩, Nat.le_refl _, ⟨hX, hbl, hbl⟩, h1, h2, ?_, ⟨adV 0, ?_⟩, ?_, ?_⟩⟩
  · exact vk_R.of (A := #[Value.ref b]) (hts _ (pj_tb1 (k := 155) (by decide +kernel))) (hK 0 (by decide))
  · refine ⟨fun i hi => ?_, fun i j hi hj _ => by omega⟩
    obtain rfl : i = 0 := by omega
    exact hS.1 0 (by decide)
  · exact va_Zof (args := #[Value.ref b]) (htl _ (List.mem_append_right _ (List.mem_of_getElem? (i := 165) (by decide +kernel)))) (hts _ (pj_tb1 (k := 6) (by decide +kernel))) (va_eqt (hs _ (by decide +kernel))) hAA
  · exact va_Zqof (args := #[Value.ref b]) (htl _ (List.mem_append_right _ (List.mem_of_getElem? (i := 173) (by decide +kernel)))) (hts _ (pj_tb1 (k := 8) (by decide +kernel))) (hs _ (by decide +kernel)) hAA
/-- the start of the pure machine -/
def pj_Z0 (L : Nat) : pj_Z := (2, fun k => match k with | 0 => 18 | 1 => 19 | _ => 20, fun k => match k with | 0 => L | _ => 0, fun _ _ => none)
def pj_I0 (xs : Nat → Int32) : Nat → Nat → Int32 := fun a j => match a with | 0 => xs j | _ => 0
theorem pj_chR {p : Program} {l : Launch} {e : Env} {R R' : Room} {s : State} {m : MethodId} {args : Array Value} {below : List Frame} {meth : Method} {c : Code} {H : Heap} {locs : List Loc} {cells slots : Nat} {Q : State → Prop} {g : JFrame} (hr : s.hasRoom e.platform R' = true) (h : W p l e R' s m args below meth c H locs cells slots Q g) : W p l e R s m args below meth c H locs cells slots Q g :=
  fun T hT X => h T hT { X with room := hr }
abbrev pj_R0 : Room := { frames := 2048, cells := 317, slots := 27802, locals := 84000 }
set_option maxRecDepth 100000 in
set_option maxHeartbeats 4000000 in
/-- the law comes to its end where the pure machine does -/
theorem pj_law {p : Program} {e : Env} {s : State} {m : MethodId} {below : List Frame} {meth : Method} {c : Code} (l : Launch) {b L : Nat} {xs : Nat → Int32} (C0 : lw_At p s m meth c b L xs) {d : Nat} (hd1 : d + 11 ≤ 2048) (hd2 : 64 * d + 704 ≤ 84000)
    (h : pj_R (pj_C tm ta d) ta mc_0 true (fun r _ => r = some (.int 1)) 0 [some (.ref 0), none, none, none] [] (pj_Z0 L) (pj_I0 xs) (fun _ _ => 0) 317 27802) :
    W p l e room_1 s m #[Value.ref b] below meth c s.heap [] 0 0 (lw_Z below #[Value.ref b] s) (entryFrame m ([Value.ref b] : List Value).toArray 4) := by
  obtain ⟨ω, e1, e2, e3, e4, hX⟩ := pj_begin C0
  subst e1
  subst e3
  subst e4
  obtain ⟨hx, hb, hr, -, -, -, -, -, hlk, -⟩ := C0
  intro T hT X0
  have r1 := X0.room
  have r2 : s.hasRoom e.platform pj_R0 = true := Jvm.Free.hasRoom_mono (r' := room_1) (Nat.le_of_ble_eq_true rfl) (Nat.le_of_ble_eq_true rfl) (Nat.le_of_ble_eq_true rfl) (Nat.le_of_ble_eq_true rfl) r1
  refine pj_chR (R := room_1) r2 ?_ T hT X0
  have X := hX pj_R0 (Nat.le_of_ble_eq_true rfl) (Nat.le_of_ble_eq_true rfl)
  have hE : pj_end ω p l e pj_R0 s m #[Value.ref ω.2.2.1] below meth c code (lw_Z below #[Value.ref ω.2.2.1] s) true 3 (fun r _ => r = some (.int 1)) := by
    refine ⟨?_, ?_, ?_⟩
    · intro pc H locs ls Z I J a hk hd ha hq g
      have hq : a = 1 := Value.int.inj (Option.some.inj hq)
      subst hq
      exact pj_chR r1 (va_forget (fun q hq => by have := g.2.2.2.1.2.2 q hq; rw [e2] at this; exact this) (W.widen (Nat.le_of_ble_eq_true rfl) (Nat.le_of_ble_eq_true rfl) (lw_ret hx hb hr hlk hd)))
    · intro pc H locs ls Z I J a hk
      exact absurd hk (by decide)
    · intro pc H locs ls Z I J hk
      exact absurd hk (by decide)
  obtain ⟨hD, hO⟩ := pj_okBall 0 mt_0 rfl
  have walk := h (pj_W ω p l e pj_R0 s m #[Value.ref ω.2.2.1] below meth c 4 (lw_Z below #[Value.ref ω.2.2.1] s)) (fun pc L st Z I J bc bs q => by
    unfold pj_1 at q
    cases hat : pj_at pc mc_0 with
    | none => rw [hat] at q; exact q.elim
    | some en =>
      rw [hat] at q
      obtain ⟨i, len, nx, ⟨x, y, z⟩, w, v, sw⟩ := en
      obtain ⟨ch, hch, hmem⟩ := pj_at_mem hat
      have h1 := List.all_eq_true.mp (List.all_eq_true.mp hD ch hch) _ hmem
      have h2 := List.all_eq_true.mp (List.all_eq_true.mp hO ch hch) _ hmem
      exact pj_step (ini := false) X (pj_met l ω pj_okBall d) hd1 hd2 (fun q => absurd q (by decide)) hE pj_Cn (of_decide_eq_true h1) h2 q)
  have hwd : pj_wd ω s (pj_Z0 ω.2.2.2.2.2.1) (pj_I0 ω.2.2.2.2.2.2) (fun _ _ => 0) s.heap [] 0 := ⟨⟨Nat.le_refl 2, rfl, rfl, fun k hk => by
    rcases k with _ | _ | k
    · exact absurd hk (by show ¬ (2 : Nat) ≤ 0; decide)
    · exact absurd hk (by show ¬ (2 : Nat) ≤ 1; decide)
    · rfl⟩, fun k x hx => absurd (pj_wl_inv hx).1 (by show ¬ k + 2 < 2; omega), by rw [e2]; rfl, va_S.rf, rfl, rfl⟩
  show W p l e pj_R0 s m #[Value.ref ω.2.2.1] below meth c s.heap [] 0 0 (lw_Z below #[Value.ref ω.2.2.1] s) (entryFrame m ([Value.ref ω.2.2.1] : List Value).toArray 4)
  rw [lg_entry_eq]
  exact walk s.heap [] _ 0 0 hwd (Nat.zero_add _) (Nat.zero_add _) (pj_enter ω [.ref 0] (n := 4) (Nat.le_of_ble_eq_true rfl))
