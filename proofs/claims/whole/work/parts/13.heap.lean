/-! instructions of fields and arrays -/
theorem pj_cls {ci : Nat} {r : vw_C} (h : pj_cl[ci]? = some r) : ci < 13 ∧ (∀ w ∈ u_ws r.1 r.2.1 r.2.2, w ∈ pj_tbl) ∧ (∀ k, k < r.2.2 → parseFieldDescriptor (r.2.1 k).2.2.1 = some (pj_ty ci k)) ∧ (∀ a, a < r.2.2 → ∀ b, b < r.2.2 → a ≠ b → (r.2.1 a).2.1 ≠ (r.2.1 b).2.1) ∧ pj_nf ci = r.2.2 ∧ Cond.instantiable r.1 r.2.2 ∈ pj_tbl ∧ Cond.initialized r.1 ∈ pj_tbl ∧ r.1 = cn ci := by
  have hlt : ci < 13 := (List.getElem?_eq_some_iff.mp h).1
  have h1 := List.all_eq_true.mp pj_okC_all ci (List.mem_range.mpr hlt)
  unfold pj_okC at h1
  rw [h] at h1
  simp only [Bool.and_eq_true, List.all_eq_true, decide_eq_true_eq, List.mem_range, Bool.or_eq_true] at h1
  obtain ⟨⟨⟨⟨⟨⟨a1, a2⟩, a3⟩, a4⟩, a5⟩, a6⟩, a7⟩ := h1
  refine ⟨hlt, fun w hw => pj_tm (a1 w hw).1 (a1 w hw).2, a2, fun a ha b hb hab => ?_, Nat.eq_of_beq_eq_true a4, pj_tm a5 rfl, pj_tm a6 rfl, a7⟩
  rcases a3 a ha b hb with q | q
  · exact absurd q hab
  · exact q
/-- an entry of a field, with its words -/
theorem pj_fld {own k x y z : Nat} (h : (cpF.any fun q => Nat.beq q.1 own && Nat.beq q.2.1 k && Nat.beq q.2.2.1 x && Nat.beq q.2.2.2.1 y && Nat.beq q.2.2.2.2.1 z) = true) :
    ∃ r : vw_C, pj_cl[x]? = some r ∧ y < r.2.2 ∧ (r.2.1 y).1 = r.1 ∧ pj_ft x y = z ∧ (Cond.fieldLink (cn own) k r.1 (r.2.1 y).2.1 (r.2.1 y).2.2.1 ∈ pj_tbl ∨ Cond.fieldLinkNest (cn own) k r.1 (r.2.1 y).2.1 (r.2.1 y).2.2.1 "PegCoats" ∈ pj_tbl) := by
  obtain ⟨q, hq, h⟩ := List.any_eq_true.mp h
  simp only [Bool.and_eq_true] at h
  obtain ⟨⟨⟨⟨h1, h2⟩, h3⟩, h4⟩, h5⟩ := h
  have e1 := Nat.eq_of_beq_eq_true h1
  have e2 := Nat.eq_of_beq_eq_true h2
  have e3 := Nat.eq_of_beq_eq_true h3
  have e4 := Nat.eq_of_beq_eq_true h4
  have e5 := Nat.eq_of_beq_eq_true h5
  have h6 := List.all_eq_true.mp cpF_ok q hq
  obtain ⟨q1, q2, q3, q4, q5, q6, q7⟩ := q
  dsimp only at e1 e2 e3 e4 e5
  subst e1; subst e2; subst e3; subst e4; subst e5
  unfold pj_okF at h6
  dsimp only at h6
  cases hr : pj_cl[q3]? with
  | none => rw [hr] at h6; cases h6
  | some r =>
    rw [hr] at h6
    dsimp only at h6
    simp only [Bool.and_eq_true, decide_eq_true_eq] at h6
    obtain ⟨⟨⟨a1, a2⟩, a3⟩, a4⟩ := h6
    refine ⟨r, rfl, a1, a2, a3, ?_⟩
    cases q7 with
    | false =>
      rw [decide_eq_true_eq] at a4
      exact Or.inl (pj_tb a4)
    | true =>
      rw [decide_eq_true_eq] at a4
      exact Or.inr (pj_tb a4)
section PH
variable {ω : pj_Wd} {p : Program} {l : Launch} {e : Env} {R : Room} {s : State} {m : MethodId} {args : Array Value} {below : List Frame} {meth : Method} {c : Code} {nL : Nat} {QW : State → Prop} {bytes : ByteArray} {own : Nat} {pc : Nat} {Z Z' : pj_Z} {I I' : Nat → Nat → Int32} {J J' : Nat → Nat → Int64} {H H1 : Heap} {locs locs1 : List Loc} {ls : Array Slot} {cells slots : Nat} {rest : List Value}
theorem pj_we_obj {a ci : Nat} (h : Z.2.1 a = ci) (hc : ci < 13) : pj_we ω Z I J a = .inr (ci, (List.range (pj_nf ci)).map (pj_fv ω Z I J ci a)) := by
  unfold pj_we
  rw [h]
  split <;> first | omega | rfl
theorem pj_we_13 {a : Nat} (h : Z.2.1 a = 13) : pj_we ω Z I J a = .inl (ω.2.1 0, Z.2.2.1 a, .inl (I a)) := by unfold pj_we; rw [h]; rfl
theorem pj_we_14 {a : Nat} (h : Z.2.1 a = 14) : pj_we ω Z I J a = .inl (ω.2.1 1, Z.2.2.1 a, .inr (.inl (J a))) := by unfold pj_we; rw [h]; rfl
theorem pj_we_15 {a : Nat} (h : Z.2.1 a = 15) : pj_we ω Z I J a = .inl (ω.2.1 2, Z.2.2.1 a, .inl (I a)) := by unfold pj_we; rw [h]; rfl
theorem pj_we_16 {a : Nat} (h : Z.2.1 a = 16) : pj_we ω Z I J a = .inl (ω.2.1 3, Z.2.2.1 a, .inr (.inr (.inr (.inr fun j => (Z.2.2.2 a j).map (pj_ad ω))))) := by unfold pj_we; rw [h]; rfl
theorem pj_we_17 {a : Nat} (h : Z.2.1 a = 17) : pj_we ω Z I J a = .inl (ω.2.1 4, Z.2.2.1 a, .inr (.inr (.inr (.inr fun j => (Z.2.2.2 a j).map (pj_ad ω))))) := by unfold pj_we; rw [h]; rfl
/-- a cell of the world, by its number -/
theorem pj_cell (g : pj_wd ω s Z I J H locs cells) {a ci : Nat} (h : Z.2.1 a = ci) (hc : ci < 18) : ∃ k, a = k + 2 ∧ k + 2 < Z.1 ∧ (pj_wl ω Z I J)[k]? = some (pj_ad ω a, pj_we ω Z I J a) := by
  obtain ⟨k, rfl, hk⟩ := pj_wf_in g.1 h hc
  exact ⟨k, rfl, hk, pj_wl_get hk⟩
theorem pj_get (X : pj_X ω p R s m args c bytes nL own) {k x y z : Nat} (hd : decode bytes pc = .ok (.getfield k, 3)) (hF : (cpF.any fun q => Nat.beq q.1 own && Nat.beq q.2.1 k && Nat.beq q.2.2.1 x && Nat.beq q.2.2.2.1 y && Nat.beq q.2.2.2.2.1 z) = true)
    {a : Nat} (ha : Z.2.1 a = x) (g : pj_wd ω s Z I J H locs cells) (kk : pj_ft x y = z → W p l e R s m args below meth c H locs cells slots QW (F0 m (pc + 3) ls (pj_fv ω Z I J x a y :: rest))) :
    W p l e R s m args below meth c H locs cells slots QW (F0 m pc ls (.ref (pj_ad ω a) :: rest)) := by
  obtain ⟨r, hr, hy, hsame, hft, hl⟩ := pj_fld hF
  obtain ⟨hx, hin, -, -, hnf, -⟩ := pj_cls hr
  obtain ⟨q0, rfl, hq, he⟩ := pj_cell g ha (by omega)
  rw [pj_we_obj ha hx] at he
  have hv : ((List.range (pj_nf x)).map (pj_fv ω Z I J x (q0 + 2)))[y]? = some (pj_fv ω Z I J x (q0 + 2) y) := by
    rw [List.getElem?_map, List.getElem?_range (by omega)]
    rfl
  have hs2 : ∀ x, s.fieldFound? (r.2.1 y).1 (r.2.1 y).2.1 (r.2.1 y).2.2.1 = some x → s.fieldFound? r.1 (r.2.1 y).2.1 (r.2.1 y).2.2.1 = some x := fun x h => by rw [← hsame]; exact h
  rcases hl with hl | hl
  · exact va_get (C := r.1) (T := r.2.1) (N := r.2.2) (ref := r.1) X.1 X.2.1 X.2.2.2.2.1 hin X.2.2.2.1 X.2.2.2.2.2.1 g.2.1 q0 he hr y hy (X.2.2.2.2.1 _ hl) hs2 hv hd (kk hft)
  · exact va_getN (C := r.1) (T := r.2.1) (N := r.2.2) (ref := r.1) X.1 X.2.1 X.2.2.2.2.1 hin X.2.2.2.1 X.2.2.2.2.2.1 g.2.1 q0 he hr y hy (X.2.2.2.2.1 _ hl) hs2 hv hd (kk hft)
/-- the world behind a store -/
theorem pj_wd_set (g : pj_wd ω s Z I J H locs cells) {k : Nat} {el : va_E} (hk : k + 2 < Z.1) (hw : pj_we ω Z' I' J' (k + 2) = el) (ho : ∀ j, j ≠ k + 2 → pj_we ω Z' I' J' j = pj_we ω Z I J j) (hn : Z'.1 = Z.1) (hwf : pj_wf Z') (h0 : Z'.2.2.1 0 = Z.2.2.1 0) (h1 : I' 0 = I 0)
    (hP : va_P ω.1 pj_cl ((pj_wl ω Z I J).set k (ω.2.2.2.2.1 + k, el)) H1) (hS : va_S (fun x => ω.2.2.2.2.1 ≤ x) s.heap H1 locs1) : pj_wd ω s Z' I' J' H1 locs1 cells := by
  obtain ⟨g1, g2, g3, g4, g5, g6⟩ := g
  refine ⟨hwf, ?_, by rw [hn]; exact g3, hS, by rw [h0]; exact g5, by rw [h1]; exact g6⟩
  rw [pj_wl_set hk hn ho, hw]
  exact hP
theorem pj_put (X : pj_X ω p R s m args c bytes nL own) {ini : Bool} (hini : ini = true → meth.name = "<init>") {k x y z : Nat} (hd : decode bytes pc = .ok (.putfield k, 3))
    (hF : (cpF.any fun q => Nat.beq q.1 own && Nat.beq q.2.1 k && Nat.beq q.2.2.1 x && Nat.beq q.2.2.2.1 y && Nat.beq q.2.2.2.2.1 z && (!pj_fin x y || (ini && Nat.beq own x && !q.2.2.2.2.2.2))) = true)
    {a : Nat} (ha : Z.2.1 a = x) (g : pj_wd ω s Z I J H locs cells) {v : Value} (hv : narrow (pj_ty x y) v = v ∧ fits (pj_ty x y) v = true)
    (hnew : pj_ft x y = z → ∀ j, pj_fv ω Z' I' J' x a j = if j = y then v else pj_fv ω Z I J x a j)
    (hZ : Z'.1 = Z.1 ∧ Z'.2.1 = Z.2.1 ∧ Z'.2.2.1 = Z.2.2.1) (ho : ∀ j, j ≠ a → pj_we ω Z' I' J' j = pj_we ω Z I J j) (h1 : I' 0 = I 0)
    (kk : ∀ H1 locs1, pj_wd ω s Z' I' J' H1 locs1 cells → W p l e R s m args below meth c H1 locs1 cells slots QW (F0 m (pc + 3) ls rest)) :
    W p l e R s m args below meth c H locs cells slots QW (F0 m pc ls (v :: .ref (pj_ad ω a) :: rest)) := by
  have hF2 : (cpF.any fun q => Nat.beq q.1 own && Nat.beq q.2.1 k && Nat.beq q.2.2.1 x && Nat.beq q.2.2.2.1 y && Nat.beq q.2.2.2.2.1 z) = true := by
    obtain ⟨q, hq, h⟩ := List.any_eq_true.mp hF
    rw [Bool.and_eq_true] at h
    exact List.any_eq_true.mpr ⟨q, hq, h.1⟩
  obtain ⟨r, hr, hy, hsame, hft, hl⟩ := pj_fld hF2
  obtain ⟨hx, hin, hty, hnm, hnf, -, -, hcn⟩ := pj_cls hr
  have hz := hv
  have hd2 := hty y hy
  obtain ⟨q0, rfl, hq, he⟩ := pj_cell g ha (by omega)
  rw [pj_we_obj ha hx] at he
  have hs2 : ∀ x, s.fieldFound? (r.2.1 y).1 (r.2.1 y).2.1 (r.2.1 y).2.2.1 = some x → s.fieldFound? r.1 (r.2.1 y).2.1 (r.2.1 y).2.2.1 = some x := fun x h => by rw [← hsame]; exact h
  have hlen : y < ((List.range (pj_nf x)).map (pj_fv ω Z I J x (q0 + 2))).length := by rw [List.length_map, List.length_range]; omega
  have hw : pj_we ω Z' I' J' (q0 + 2) = .inr (x, ((List.range (pj_nf x)).map (pj_fv ω Z I J x (q0 + 2))).set y v) := by
    rw [pj_we_obj (by rw [hZ.2.1]; exact ha) hx]
    congr 2
    refine List.ext_getElem? (fun j => ?_)
    rw [List.getElem?_set, List.getElem?_map, List.getElem?_map]
    by_cases hj : j < pj_nf x
    · rw [List.getElem?_range hj]
      show some (pj_fv ω Z' I' J' x (q0 + 2) j) = _
      rw [hnew hft j]
      by_cases hjy : y = j
      · subst hjy
        rw [if_pos rfl, if_pos rfl, if_pos hlen]
      · rw [if_neg (fun q => hjy q.symm), if_neg hjy]
        rfl
    · have hn0 : (List.range (pj_nf x))[j]? = none := List.getElem?_eq_none (by rw [List.length_range]; omega)
      rw [hn0, if_neg (by omega)]
      rfl
  have hwf : pj_wf Z' := by
    obtain ⟨w1, w2, w3, w4⟩ := g.1
    exact ⟨by rw [hZ.1]; exact w1, by rw [hZ.2.1]; exact w2, by rw [hZ.2.1]; exact w3, fun k hk => by rw [hZ.2.1]; exact w4 k (by rw [← hZ.1]; exact hk)⟩
  have fin := fun H1 locs1 hP hS => kk H1 locs1 (pj_wd_set (H1 := H1) (locs1 := locs1) g hq hw ho hZ.1 hwf (by rw [hZ.2.2]) h1 hP hS)
  by_cases hfi : (r.2.1 y).2.2.2 = true
  · obtain ⟨q, hqm, h⟩ := List.any_eq_true.mp hF
    simp only [Bool.and_eq_true, Bool.or_eq_true, Bool.not_eq_true'] at h
    obtain ⟨⟨⟨⟨⟨b1, b2⟩, b3⟩, b4⟩, b5⟩, b6⟩ := h
    have hpf : pj_fin x y = true := by unfold pj_fin; rw [hr]; exact hfi
    rcases b6 with b6 | b6
    · rw [hpf] at b6; cases b6
    obtain ⟨⟨c1, c2⟩, c3⟩ := b6
    have e1 := Nat.eq_of_beq_eq_true b1
    have e2 := Nat.eq_of_beq_eq_true b2
    have e3 := Nat.eq_of_beq_eq_true b3
    have e4 := Nat.eq_of_beq_eq_true b4
    have e5 := Nat.eq_of_beq_eq_true b5
    have h6 := List.all_eq_true.mp cpF_ok q hqm
    obtain ⟨q1, q2, q3, q4, q5, q6, q7⟩ := q
    dsimp only at e1 e2 e3 e4 e5 c3
    subst e1; subst e2; subst e3; subst e4; subst e5; subst c3
    unfold pj_okF at h6
    dsimp only at h6
    rw [hr] at h6
    dsimp only at h6
    simp only [Bool.and_eq_true, decide_eq_true_eq] at h6
    have hl := pj_tb h6.2
    have ho2 : (r.2.1 q4).1 = cn q1 := by rw [hsame, hcn, Nat.eq_of_beq_eq_true c2]
    exact va_putF (C := r.1) (T := r.2.1) (N := r.2.2) (ref := r.1) X.1 X.2.1 X.2.2.2.2.1 hin (pj_ty q3) hty hnm X.2.2.2.1 X.2.2.2.2.2.1 g.2.1 pj_wl_D g.2.2.2.1 q0 he hr q4 hy (X.2.2.2.2.1 _ hl) hs2 hfi (hini c1) ho2 hd2 hz.1 hz.2 hlen hd (fun H1 locs1 hP _ hS => fin H1 locs1 hP hS)
  · have hfi : (r.2.1 y).2.2.2 = false := by cases h : (r.2.1 y).2.2.2 <;> first | rfl | exact absurd h hfi
    rcases hl with hl | hl
    · exact va_put (C := r.1) (T := r.2.1) (N := r.2.2) (ref := r.1) X.1 X.2.1 X.2.2.2.2.1 hin (pj_ty x) hty hnm X.2.2.2.1 X.2.2.2.2.2.1 g.2.1 pj_wl_D g.2.2.2.1 q0 he hr y hy (X.2.2.2.2.1 _ hl) hs2 hfi hd2 hz.1 hz.2 hlen hd (fun H1 locs1 hP _ hS => fin H1 locs1 hP hS)
    · exact va_putN (C := r.1) (T := r.2.1) (N := r.2.2) (ref := r.1) X.1 X.2.1 X.2.2.2.2.1 hin (pj_ty x) hty hnm X.2.2.2.1 X.2.2.2.2.2.1 g.2.1 pj_wl_D g.2.2.2.1 q0 he hr y hy (X.2.2.2.2.1 _ hl) hs2 hfi hd2 hz.1 hz.2 hlen hd (fun H1 locs1 hP _ hS => fin H1 locs1 hP hS)
end PH
