/-! what makes cells; rows copied -/
def pj_okY (ci : Nat) : Bool := (List.range (pj_nf ci)).all fun k => match pj_ty ci k with
  | .int => true
  | .long => true
  | .boolean => true
  | .object _ => true
  | .array _ => true
  | _ => false
theorem pj_okY_all : (List.range 13).all pj_okY = true := by decide +kernel
def pj_okN (e : Nat × Nat × Nat × Nat) : Bool := decide (tables_1[e.2.2.2]? = some (Cond.classLink (cn e.1) e.2.1 (cn e.2.2.1)))
set_option maxRecDepth 100000 in
theorem cpC_ok : cpC.all pj_okN = true := by decide +kernel
theorem pj_clk {own k x : Nat} (h : (cpC.any fun q => Nat.beq q.1 own && Nat.beq q.2.1 k && Nat.beq q.2.2.1 x) = true) : Cond.classLink (cn own) k (cn x) ∈ pj_tbl := by
  obtain ⟨q, hq, h⟩ := List.any_eq_true.mp h
  simp only [Bool.and_eq_true] at h
  obtain ⟨⟨h1, h2⟩, h3⟩ := h
  have h4 := List.all_eq_true.mp cpC_ok q hq
  unfold pj_okN at h4
  rw [decide_eq_true_eq, Nat.eq_of_beq_eq_true h1, Nat.eq_of_beq_eq_true h2, Nat.eq_of_beq_eq_true h3] at h4
  exact pj_tb h4
theorem va_up_at {α : Type} (f : Nat → α) (k : Nat) (v : α) : va_up f k v k = v := by simp [va_up]
theorem va_up_no {α : Type} (f : Nat → α) {k j : Nat} (v : α) (h : j ≠ k) : va_up f k v j = f j := by simp [va_up, h]
section PN
variable {ω : pj_Wd} {p : Program} {l : Launch} {e : Env} {R : Room} {s : State} {m : MethodId} {args : Array Value} {below : List Frame} {meth : Method} {c : Code} {nL : Nat} {QW : State → Prop} {bytes : ByteArray} {own : Nat} {pc : Nat} {Z Z' : pj_Z} {I I' : Nat → Nat → Int32} {J J' : Nat → Nat → Int64} {H H1 : Heap} {locs locs1 : List Loc} {ls : Array Slot} {cells slots : Nat} {rest : List Value}
theorem pj_fresh {q : Nat} {el : va_E} (hP : va_P ω.1 pj_cl (pj_wl ω Z I J ++ [(q, el)]) H1) (hD : va_D (fun x => ω.2.2.2.2.1 ≤ x) (pj_wl ω Z I J ++ [(q, el)])) (hsz : H1.size ≤ ω.2.2.2.2.1 + (Z.1 - 2) + 1) : q = ω.2.2.2.2.1 + (Z.1 - 2) := by
  have hat : (pj_wl ω Z I J ++ [(q, el)])[Z.1 - 2]? = some (q, el) := by
    rw [List.getElem?_append_right (by rw [pj_wl_len]; omega), pj_wl_len, Nat.sub_self]
    rfl
  have h1 : q < H1.size := (hP _ _ hat).lt
  have h2 : ω.2.2.2.2.1 ≤ q := hD.2 _ _ hat
  rcases Nat.lt_or_ge q (ω.2.2.2.2.1 + (Z.1 - 2)) with h3 | h3
  · exfalso
    have hk : (q - ω.2.2.2.2.1) + 2 < Z.1 := by omega
    have hb : (pj_wl ω Z I J ++ [(q, el)])[q - ω.2.2.2.2.1]? = some (ω.2.2.2.2.1 + (q - ω.2.2.2.2.1), pj_we ω Z I J (q - ω.2.2.2.2.1 + 2)) := by
      rw [List.getElem?_append_left (by rw [pj_wl_len]; omega)]
      exact pj_wl_get hk
    have := hD.1 _ _ _ _ hb hat (by show ω.2.2.2.2.1 + (q - ω.2.2.2.2.1) = q; omega)
    omega
  · omega
theorem pj_wd_push {kind len : Nat} (hk : kind < 18) (g : pj_wd ω s Z I J H locs cells) {el : va_E} (hw : pj_we ω (pj_nZ Z kind len) (va_up I Z.1 (fun _ => 0)) (va_up J Z.1 (fun _ => 0)) Z.1 = el)
    (hP : va_P ω.1 pj_cl (pj_wl ω Z I J ++ [(ω.2.2.2.2.1 + (Z.1 - 2), el)]) H1) (hS : va_S (fun x => ω.2.2.2.2.1 ≤ x) s.heap H1 locs) : pj_wd ω s (pj_nZ Z kind len) (va_up I Z.1 (fun _ => 0)) (va_up J Z.1 (fun _ => 0)) H1 locs (cells + 1) := by
  obtain ⟨⟨w1, w2, w3, w4⟩, g2, g3, g4, g5, g6⟩ := g
  have hne : ∀ k, k < Z.1 → k ≠ Z.1 := fun k h => Nat.ne_of_lt h
  refine ⟨⟨by show 2 ≤ Z.1 + 1; omega, ?_, ?_, fun k hk => ?_⟩, ?_, ?_, hS, ?_, ?_⟩
  · show va_up Z.2.1 Z.1 kind 0 = 18
    rw [va_up_no _ _ (hne 0 (by omega))]; exact w2
  · show va_up Z.2.1 Z.1 kind 1 = 19
    rw [va_up_no _ _ (hne 1 (by omega))]; exact w3
  · have hk : Z.1 + 1 ≤ k := hk
    show va_up Z.2.1 Z.1 kind k = 20
    rw [va_up_no _ _ (by omega)]; exact w4 k (by omega)
  · rw [pj_wl_push (Z := Z) (I := I) (J := J) w1 rfl (fun k h => pj_we_eq (va_up_no _ _ (hne k h)) (va_up_no _ _ (hne k h)) (va_up_no _ _ (hne k h)) (va_up_no _ _ (hne k h)) (va_up_no _ _ (hne k h))), hw]
    exact hP
  · show s.heap.size + (cells + 1) = ω.2.2.2.2.1 + (Z.1 + 1 - 2)
    omega
  · show va_up Z.2.2.1 Z.1 len 0 = _
    rw [va_up_no _ _ (hne 0 (by omega))]; exact g5
  · show va_up I Z.1 (fun _ => 0) 0 = _
    rw [va_up_no _ _ (hne 0 (by omega))]; exact g6
theorem pj_adn (h : 2 ≤ Z.1) : ω.2.2.2.2.1 + (Z.1 - 2) = pj_ad ω Z.1 := by
  obtain ⟨k, hk⟩ : ∃ k, Z.1 = k + 2 := ⟨Z.1 - 2, by omega⟩
  rw [hk]
  rfl
theorem pj_newo (X : pj_X ω p R s m args c bytes nL own) {k x y : Nat} (hd : decode bytes pc = .ok (.new k, 3)) (hC : (cpC.any fun q => Nat.beq q.1 own && Nat.beq q.2.1 k && Nat.beq q.2.2.1 x) = true) (hy : y = pj_nf x) (hx : x < 13)
    (g : pj_wd ω s Z I J H locs cells) (hc : cells + 1 ≤ R.cells) (hs : slots + y ≤ R.slots)
    (kk : ∀ H1, pj_wd ω s (pj_nZ Z x 0) (va_up I Z.1 (fun _ => 0)) (va_up J Z.1 (fun _ => 0)) H1 locs (cells + 1) → W p l e R s m args below meth c H1 locs (cells + 1) (slots + y) QW (F0 m (pc + 3) ls (.ref (pj_ad ω Z.1) :: rest))) :
    W p l e R s m args below meth c H locs cells slots QW (F0 m pc ls rest) := by
  obtain ⟨r, hr⟩ : ∃ r, pj_cl[x]? = some r := ⟨pj_cl[x]'hx, List.getElem?_eq_getElem hx⟩
  obtain ⟨-, hin, hty, -, hnf, hinst, hini, hcn⟩ := pj_cls hr
  have hl := pj_clk hC
  rw [← hcn] at hl
  have hkd : (pj_nZ Z x 0).2.1 Z.1 = x := va_up_at _ _ _
  have hfs : ∀ j, j < r.2.2 → defaultValue (pj_ty x j) = vp_V ((List.range (pj_nf x)).map (pj_fv ω (pj_nZ Z x 0) (va_up I Z.1 (fun _ => 0)) (va_up J Z.1 (fun _ => 0)) x Z.1)) j := by
    intro j hj
    have h1 : (((List.range (pj_nf x)).map (pj_fv ω (pj_nZ Z x 0) (va_up I Z.1 (fun _ => 0)) (va_up J Z.1 (fun _ => 0)) x Z.1)))[j]? = some (pj_fv ω (pj_nZ Z x 0) (va_up I Z.1 (fun _ => 0)) (va_up J Z.1 (fun _ => 0)) x Z.1 j) := by
      rw [List.getElem?_map, List.getElem?_range (by omega)]; rfl
    have h2 : pj_fv ω (pj_nZ Z x 0) (va_up I Z.1 (fun _ => 0)) (va_up J Z.1 (fun _ => 0)) x Z.1 j = defaultValue (pj_ty x j) := by
      have h3 := List.all_eq_true.mp pj_okY_all x (List.mem_range.mpr hx)
      unfold pj_okY at h3
      have h4 := List.all_eq_true.mp h3 j (List.mem_range.mpr (by omega))
      have e1 : (pj_nZ Z x 0).2.2.2 Z.1 j = none := by show va_up Z.2.2.2 Z.1 (fun _ => none) Z.1 j = none; rw [va_up_at]
      unfold pj_fv pj_ft
      rw [e1, va_up_at, va_up_at]
      revert h4
      cases pj_ty x j <;> intro h4 <;> first | rfl | cases h4
    unfold vp_V
    rw [List.getD_eq_getElem?_getD, h1, h2]
    rfl
  subst hy
  refine va_new (C := r.1) (T := r.2.1) (N := r.2.2) (ci := x) X.1 X.2.1 X.2.2.2.2.1 hin (pj_ty x) hty X.2.2.2.1 (X.2.2.2.2.1 _ hl) (X.2.2.2.2.1 _ hinst) (X.2.2.2.2.1 _ hini) X.2.2.2.2.2.1 g.2.1 pj_wl_D g.2.2.2.1 (fun q hq => Nat.le_trans X.2.2.2.2.2.2.1 hq) hr hfs hc (by rw [← hnf]; exact hs) hd (fun q H1 hP hD hS => ?_)
  intro T hT XX
  have hsz : H1.size ≤ ω.2.2.2.2.1 + (Z.1 - 2) + 1 := by
    have := XX.heapSize
    rw [hT] at this
    have := g.2.2.1
    omega
  have hq := pj_fresh hP hD hsz
  subst hq
  have := kk H1 (pj_wd_push (by omega) g (pj_we_obj hkd hx) hP hS)
  rw [hnf] at this
  rw [pj_adn g.1.1]
  exact this T hT XX
theorem pj_RA {U : State} {cA : ClassId} {ty : FieldType} (h : va_RA U cA ty) : U.vm.findClass ("[" ++ ty.toString) = some cA := by
  cases ty <;> first | exact h | exact h.choose_spec.choose_spec.2.2.2
theorem pj_same {t0 : Nat} {cA cB : ClassId} {ty : FieldType} (hK : va_K ω.1 pj_cl (pj_tys ω) s) (hK2 : va_K ω.1 pj_cl (pj_tys ω ++ [(cA, ty)]) s) (ht : (pj_tys ω)[t0]? = some (cB, ty)) : cA = cB := by
  have h1 := pj_RA (hK.2 t0 _ ht).2
  have h2 := pj_RA (hK2.2 5 (cA, ty) rfl).2
  exact Option.some.inj (h2.symm.trans h1)
theorem pj_newa (X : pj_X ω p R s m args c bytes nL own) {at' : ArrayType} {x : Nat} {n : Int32} (hd : decode bytes pc = .ok (.newarray at', 2)) (hat : (at' = .int ∧ x = 13) ∨ (at' = .long ∧ x = 14) ∨ (at' = .boolean ∧ x = 15))
    (g : pj_wd ω s Z I J H locs cells) (hn : ¬ n < 0) (hb : n.toNatClampNeg ≤ 100000) (hc : cells + 1 ≤ R.cells) (hs : slots + n.toNatClampNeg ≤ R.slots)
    (kk : ∀ H1, pj_wd ω s (pj_nZ Z x n.toNatClampNeg) (va_up I Z.1 (fun _ => 0)) (va_up J Z.1 (fun _ => 0)) H1 locs (cells + 1) → W p l e R s m args below meth c H1 locs (cells + 1) (slots + n.toNatClampNeg) QW (F0 m (pc + 2) ls (.ref (pj_ad ω Z.1) :: rest))) :
    W p l e R s m args below meth c H locs cells slots QW (F0 m pc ls (.int n :: rest)) := by
  have hA : ∀ q, s.heap.size ≤ q → ω.2.2.2.2.1 ≤ q := fun q hq => Nat.le_trans X.2.2.2.2.2.2.1 hq
  have fin : ∀ (q : Nat) (H1 : Heap) (el : va_E), x < 18 → pj_we ω (pj_nZ Z x n.toNatClampNeg) (va_up I Z.1 (fun _ => 0)) (va_up J Z.1 (fun _ => 0)) Z.1 = el → va_P ω.1 pj_cl (pj_wl ω Z I J ++ [(q, el)]) H1 → va_D (fun x => ω.2.2.2.2.1 ≤ x) (pj_wl ω Z I J ++ [(q, el)]) → va_S (fun x => ω.2.2.2.2.1 ≤ x) s.heap H1 locs → W p l e R s m args below meth c H1 locs (cells + 1) (slots + n.toNatClampNeg) QW (F0 m (pc + 2) ls (.ref q :: rest)) := by
    intro q H1 el hx hw hP hD hS T hT XX
    have hsz : H1.size ≤ ω.2.2.2.2.1 + (Z.1 - 2) + 1 := by
      have := XX.heapSize
      rw [hT] at this
      have := g.2.2.1
      omega
    have hq := pj_fresh hP hD hsz
    subst hq
    have := kk H1 (pj_wd_push hx g hw hP hS)
    rw [pj_adn g.1.1]
    exact this T hT XX
  have hkd : (pj_nZ Z x n.toNatClampNeg).2.1 Z.1 = x := va_up_at _ _ _
  have hln : (pj_nZ Z x n.toNatClampNeg).2.2.1 Z.1 = n.toNatClampNeg := va_up_at _ _ _
  rcases hat with ⟨rfl, rfl⟩ | ⟨rfl, rfl⟩ | ⟨rfl, rfl⟩
  · refine va_newa (atype := .int) (ty := .int) (a0 := (n.toNatClampNeg, .inl (fun _ => 0))) X.1 X.2.1 (X.2.2.2.2.1 _ (pj_tb (k := 46) (by decide +kernel))) rfl X.2.2.2.2.2.1 g.2.1 pj_wl_D g.2.2.2.1 hA (fun cA => rfl) hn rfl (by show n.toNatClampNeg * 4 ≤ _; omega) hc hs hd (fun q cA H1 hK2 hP hD hS => ?_)
    have e := pj_same X.2.2.2.2.2.1 hK2 pj_t0
    subst e
    exact fin q H1 _ (by omega) (by rw [pj_we_13 hkd, hln, va_up_at]) hP hD hS
  · refine va_newa (atype := .long) (ty := .long) (a0 := (n.toNatClampNeg, .inr (.inl (fun _ => 0)))) X.1 X.2.1 (X.2.2.2.2.1 _ (pj_tb (k := 1364) (by decide +kernel))) rfl X.2.2.2.2.2.1 g.2.1 pj_wl_D g.2.2.2.1 hA (fun cA => rfl) hn rfl (by show n.toNatClampNeg * 8 ≤ _; omega) hc hs hd (fun q cA H1 hK2 hP hD hS => ?_)
    have e := pj_same X.2.2.2.2.2.1 hK2 pj_t1
    subst e
    exact fin q H1 _ (by omega) (by rw [pj_we_14 hkd, hln, va_up_at]) hP hD hS
  · refine va_newa (atype := .boolean) (ty := .boolean) (a0 := (n.toNatClampNeg, .inl (fun _ => 0))) X.1 X.2.1 (X.2.2.2.2.1 _ (pj_tb (k := 344) (by decide +kernel))) rfl X.2.2.2.2.2.1 g.2.1 pj_wl_D g.2.2.2.1 hA (fun cA => rfl) hn rfl (by show n.toNatClampNeg * 1 ≤ _; omega) hc hs hd (fun q cA H1 hK2 hP hD hS => ?_)
    have e := pj_same X.2.2.2.2.2.1 hK2 pj_t2
    subst e
    exact fin q H1 _ (by omega) (by rw [pj_we_15 hkd, hln, va_up_at]) hP hD hS
theorem pj_newq (X : pj_X ω p R s m args c bytes nL own) {k : Nat} {n : Int32} (hd : decode bytes pc = .ok (.anewarray k, 3)) (ho : own = 1 ∧ k = 9)
    (g : pj_wd ω s Z I J H locs cells) (hn : ¬ n < 0) (hb : n.toNatClampNeg ≤ 100000) (hc : cells + 1 ≤ R.cells) (hs : slots + n.toNatClampNeg ≤ R.slots)
    (kk : ∀ H1, pj_wd ω s (pj_nZ Z 16 n.toNatClampNeg) (va_up I Z.1 (fun _ => 0)) (va_up J Z.1 (fun _ => 0)) H1 locs (cells + 1) → W p l e R s m args below meth c H1 locs (cells + 1) (slots + n.toNatClampNeg) QW (F0 m (pc + 3) ls (.ref (pj_ad ω Z.1) :: rest))) :
    W p l e R s m args below meth c H locs cells slots QW (F0 m pc ls (.int n :: rest)) := by
  have hA : ∀ q, s.heap.size ≤ q → ω.2.2.2.2.1 ≤ q := fun q hq => Nat.le_trans X.2.2.2.2.2.2.1 hq
  obtain ⟨rfl, rfl⟩ := ho
  refine va_newq (C := "PegCoats$State") X.1 X.2.1 X.2.2.2.1 (X.2.2.2.2.1 _ (pj_tb (k := 351) (by decide +kernel))) (va_AO.of (X.2.2.2.2.1 _ (pj_tb (k := 352) (by decide +kernel)))) X.2.2.2.2.2.1 g.2.1 pj_wl_D g.2.2.2.1 hA hn rfl (by omega) hc hs hd (fun q cA H1 hK2 hP hD hS => ?_)
  have e := pj_same X.2.2.2.2.2.1 hK2 pj_t3
  subst e
  intro T hT XX
  have hsz : H1.size ≤ ω.2.2.2.2.1 + (Z.1 - 2) + 1 := by
    have := XX.heapSize
    rw [hT] at this
    have := g.2.2.1
    omega
  have hq := pj_fresh hP hD hsz
  subst hq
  have hkd : (pj_nZ Z 16 n.toNatClampNeg).2.1 Z.1 = 16 := va_up_at _ _ _
  have hln : (pj_nZ Z 16 n.toNatClampNeg).2.2.1 Z.1 = n.toNatClampNeg := va_up_at _ _ _
  have hrr : (pj_nZ Z 16 n.toNatClampNeg).2.2.2 Z.1 = fun _ => none := va_up_at _ _ _
  have := kk H1 (pj_wd_push (by omega) g (by rw [pj_we_16 hkd, hln, hrr]; rfl) hP hS)
  rw [pj_adn g.1.1]
  exact this T hT XX
theorem pj_copy (X : pj_X ω p R s m args c bytes nL own) {k : Nat} {n sp dp : Int32} {a d : Nat} (hd : decode bytes pc = .ok (.invokestatic k, 3)) (hl : Cond.methodLink (cn own) k arraycopyName ∈ pj_tbl) (ha : Z.2.1 a = 13) (hdd : Z.2.1 d = 13)
    (g : pj_wd ω s Z I J H locs cells) (h1 : ¬ sp < 0) (h2 : ¬ dp < 0) (h3 : ¬ n < 0) (h4 : sp.toNatClampNeg + n.toNatClampNeg ≤ Z.2.2.1 a) (h5 : dp.toNatClampNeg + n.toNatClampNeg ≤ Z.2.2.1 d) (hr : (rest.map fun v => v.category).sum ≤ 8) (hml : ls.size = nL)
    (kk : ∀ H1 locs1, pj_wd ω s Z (pj_cp I a d sp.toNatClampNeg dp.toNatClampNeg n.toNatClampNeg) J H1 locs1 cells → W p l e R s m args below meth c H1 locs1 cells slots QW (F0 m (pc + 3) ls rest)) :
    W p l e R s m args below meth c H locs cells slots QW (F0 m pc ls (.int n :: .int dp :: .ref (pj_ad ω d) :: .int sp :: .ref (pj_ad ω a) :: rest)) := by
  have h0 := pj_ne0 g.1 hdd (by omega)
  obtain ⟨q0, rfl, hq, he⟩ := pj_cell g ha (by omega)
  obtain ⟨q1, rfl, hq1, he1⟩ := pj_cell g hdd (by omega)
  rw [pj_we_13 ha] at he
  rw [pj_we_13 hdd] at he1
  have hnw : nativeFrameWords "java/lang/System" "arraycopy" 5 ≤ 40 := by decide +kernel
  refine va_copyi X.1 X.2.1 (by rw [X.2.2.1, hml]) X.2.2.2.1 (X.2.2.2.2.1 _ hl) (X.2.2.2.2.1 _ (pj_tb (k := 725) (by decide +kernel))) (X.2.2.2.2.1 _ (pj_tb (k := 724) (by decide +kernel))) (X.2.2.2.2.1 _ (pj_tb (k := 18) (by decide +kernel))) X.2.2.2.2.2.1 g.2.1 pj_wl_D g.2.2.2.1 q0 q1 0 0 (ty := .int) he he1 pj_t0 pj_t0 rfl h1 h2 h3 h4 h5 (fun _ _ => rfl) X.2.2.2.2.2.2.2.2.2.1 (by have := X.2.2.2.2.2.2.2.2.1; omega) hd
    (fun H1 locs1 hP _ hS => kk H1 locs1 (pj_wd_set g hq1 ?_ (fun j hj => pj_we_eq rfl rfl rfl (va_up_no _ _ hj) rfl) rfl g.1 rfl (va_up_no _ _ h0) hP hS))
  rw [pj_we_13 hdd]
  unfold pj_cp
  rw [va_up_at]
end PN
