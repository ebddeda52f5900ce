/-! instructions of arrays, and what makes cells -/
section PA
variable {ω : pj_Wd} {p : Program} {l : Launch} {e : Env} {R : Room} {s : State} {m : MethodId} {args : Array Value} {below : List Frame} {meth : Method} {c : Code} {nL : Nat} {QW : State → Prop} {bytes : ByteArray} {own : Nat} {pc : Nat} {Z Z' : pj_Z} {I I' : Nat → Nat → Int32} {J J' : Nat → Nat → Int64} {H H1 : Heap} {locs locs1 : List Loc} {ls : Array Slot} {cells slots : Nat} {rest : List Value}
theorem pj_t0 : (pj_tys ω)[0]? = some (ω.2.1 0, .int) := rfl
theorem pj_t1 : (pj_tys ω)[1]? = some (ω.2.1 1, .long) := rfl
theorem pj_t2 : (pj_tys ω)[2]? = some (ω.2.1 2, .boolean) := rfl
theorem pj_t3 : (pj_tys ω)[3]? = some (ω.2.1 3, .object "PegCoats$State") := rfl
theorem pj_t4 : (pj_tys ω)[4]? = some (ω.2.1 4, .array .int) := rfl
theorem pj_ial (X : pj_X ω p R s m args c bytes nL own) {a : Nat} {i : Int32} (hd : decode bytes pc = .ok (.iaload, 1)) (ha : Z.2.1 a = 13 ∨ Z.2.1 a = 18) (hi : vp_in i (Z.2.2.1 a)) (g : pj_wd ω s Z I J H locs cells)
    (kk : W p l e R s m args below meth c H locs cells slots QW (F0 m (pc + 1) ls (.int (I a i.toNatClampNeg) :: rest))) : W p l e R s m args below meth c H locs cells slots QW (F0 m pc ls (.int i :: .ref (pj_ad ω a) :: rest)) := by
  rcases ha with ha | ha
  · obtain ⟨q0, rfl, hq, he⟩ := pj_cell g ha (by omega)
    rw [pj_we_13 ha] at he
    exact va_iald X.1 X.2.1 X.2.2.2.2.2.1 g.2.1 q0 0 he pj_t0 hi hd kk
  · have h0 : a = 0 := by
      obtain ⟨w1, w2, w3, w4⟩ := g.1
      rcases a with _ | _ | k
      · rfl
      · have w3 : Z.2.1 (0 + 1) = 19 := w3
        omega
      · exfalso
        rcases Nat.lt_or_ge (k + 2) Z.1 with hk | hk
        · have hw := g.2.1 k _ (pj_wl_get hk)
          have hu : pj_we ω Z I J (k + 2) = .inr (18, (List.range (pj_nf 18)).map (pj_fv ω Z I J 18 (k + 2))) := by
            unfold pj_we
            rw [show Z.2.1 (k + 2) = 18 from ha]
            rfl
          rw [hu] at hw
          obtain ⟨r, hr, -⟩ := hw
          have := (List.getElem?_eq_some_iff.mp hr).1
          have h13 : pj_cl.length = 13 := rfl
          have this : 18 < pj_cl.length := this
          omega
        · have := w4 (k + 2) hk
          have ha : Z.2.1 (k + 2) = 18 := ha
          omega
    subst h0
    obtain ⟨hX, hb1, hb2⟩ := X.2.2.2.2.2.2.2.1
    have e1 : I 0 i.toNatClampNeg = ω.2.2.2.2.2.2 i.toNatClampNeg := by rw [g.2.2.2.2.2]
    rw [e1] at kk
    rw [g.2.2.2.2.1] at hi
    exact va_sld (A := fun x => ω.2.2.2.2.1 ≤ x) X.1 X.2.1 hX hb2 (Nat.not_le.mpr hb1) g.2.2.2.1 hi hd kk
theorem pj_lal (X : pj_X ω p R s m args c bytes nL own) {a : Nat} {i : Int32} (hd : decode bytes pc = .ok (.laload, 1)) (ha : Z.2.1 a = 14) (hi : vp_in i (Z.2.2.1 a)) (g : pj_wd ω s Z I J H locs cells)
    (kk : W p l e R s m args below meth c H locs cells slots QW (F0 m (pc + 1) ls (.long (J a i.toNatClampNeg) :: rest))) : W p l e R s m args below meth c H locs cells slots QW (F0 m pc ls (.int i :: .ref (pj_ad ω a) :: rest)) := by
  obtain ⟨q0, rfl, hq, he⟩ := pj_cell g ha (by omega)
  rw [pj_we_14 ha] at he
  exact va_lald X.1 X.2.1 X.2.2.2.2.2.1 g.2.1 q0 1 he pj_t1 hi hd kk
theorem pj_bal (X : pj_X ω p R s m args c bytes nL own) {a : Nat} {i : Int32} (hd : decode bytes pc = .ok (.baload, 1)) (ha : Z.2.1 a = 15) (hi : vp_in i (Z.2.2.1 a)) (g : pj_wd ω s Z I J H locs cells)
    (kk : W p l e R s m args below meth c H locs cells slots QW (F0 m (pc + 1) ls (.int (I a i.toNatClampNeg) :: rest))) : W p l e R s m args below meth c H locs cells slots QW (F0 m pc ls (.int i :: .ref (pj_ad ω a) :: rest)) := by
  obtain ⟨q0, rfl, hq, he⟩ := pj_cell g ha (by omega)
  rw [pj_we_15 ha] at he
  exact va_zald X.1 X.2.1 X.2.2.2.2.2.1 g.2.1 q0 2 he pj_t2 hi hd kk
theorem pj_aal (X : pj_X ω p R s m args c bytes nL own) {a : Nat} {i : Int32} (hd : decode bytes pc = .ok (.aaload, 1)) (ha : Z.2.1 a = 16 ∨ Z.2.1 a = 17) (hi : vp_in i (Z.2.2.1 a)) (g : pj_wd ω s Z I J H locs cells)
    (kk : W p l e R s m args below meth c H locs cells slots QW (F0 m (pc + 1) ls (va_rf ((Z.2.2.2 a i.toNatClampNeg).map (pj_ad ω)) :: rest))) : W p l e R s m args below meth c H locs cells slots QW (F0 m pc ls (.int i :: .ref (pj_ad ω a) :: rest)) := by
  have hlt : i.toNatClampNeg < Z.2.2.1 a := Nat.not_le.mp fun q => hi (Or.inr q)
  rcases ha with ha | ha
  · obtain ⟨q0, rfl, hq, he⟩ := pj_cell g ha (by omega)
    rw [pj_we_16 ha] at he
    exact va_aldq X.1 X.2.1 X.2.2.2.2.2.1 g.2.1 q0 3 he pj_t3 hi hd kk
  · obtain ⟨q0, rfl, hq, he⟩ := pj_cell g ha (by omega)
    rw [pj_we_17 ha] at he
    have hK := X.2.2.2.2.2.1
    exact W.aald (v := va_rf ((Z.2.2.2 (q0 + 2) i.toNatClampNeg).map (pj_ad ω))) (ty := .array .int) X.1 X.2.1 (g.2.1 q0 _ he) ((hK.2 4 _ pj_t4).1 (Z.2.2.1 (q0 + 2)) (fun j => va_rf ((Z.2.2.2 (q0 + 2) j).map (pj_ad ω)))) rfl (fun q => by cases q) (by show ¬ (i < 0 ∨ (arrV _ _ _).slots.size ≤ _); rw [arrV_size]; exact hi) (by show (arrV _ _ _).slots[_]? = _; rw [arrV_read _ _ hlt]) rfl rfl hd kk
theorem pj_alen (X : pj_X ω p R s m args c bytes nL own) {a : Nat} (hd : decode bytes pc = .ok (.arraylength, 1)) (h1 : 13 ≤ Z.2.1 a) (h2 : Z.2.1 a ≤ 18) (g : pj_wd ω s Z I J H locs cells)
    (kk : W p l e R s m args below meth c H locs cells slots QW (F0 m (pc + 1) ls (.int (nI (Z.2.2.1 a)) :: rest))) : W p l e R s m args below meth c H locs cells slots QW (F0 m pc ls (.ref (pj_ad ω a) :: rest)) := by
  by_cases h18 : Z.2.1 a = 18
  · have h0 : a = 0 := by
      obtain ⟨w1, w2, w3, w4⟩ := g.1
      rcases a with _ | _ | k
      · rfl
      · have w3 : Z.2.1 (0 + 1) = 19 := w3
        omega
      · exfalso
        rcases Nat.lt_or_ge (k + 2) Z.1 with hk | hk
        · have hw := g.2.1 k _ (pj_wl_get hk)
          have hu : pj_we ω Z I J (k + 2) = .inr (18, (List.range (pj_nf 18)).map (pj_fv ω Z I J 18 (k + 2))) := by
            unfold pj_we
            rw [show Z.2.1 (k + 2) = 18 from h18]
            rfl
          rw [hu] at hw
          obtain ⟨r, hr, -⟩ := hw
          have := (List.getElem?_eq_some_iff.mp hr).1
          have h13 : pj_cl.length = 13 := rfl
          have this : 18 < pj_cl.length := this
          omega
        · have := w4 (k + 2) hk
          have h18 : Z.2.1 (k + 2) = 18 := h18
          omega
    subst h0
    obtain ⟨hX, hb1, hb2⟩ := X.2.2.2.2.2.2.2.1
    rw [g.2.2.2.2.1] at kk
    exact va_slen (A := fun x => ω.2.2.2.2.1 ≤ x) X.1 X.2.1 hX hb2 (Nat.not_le.mpr hb1) g.2.2.2.1 hd kk
  · obtain ⟨q0, rfl, hq, he⟩ := pj_cell (a := a) g rfl (by omega)
    have hc : Z.2.1 (q0 + 2) = 13 ∨ Z.2.1 (q0 + 2) = 14 ∨ Z.2.1 (q0 + 2) = 15 ∨ Z.2.1 (q0 + 2) = 16 ∨ Z.2.1 (q0 + 2) = 17 := by omega
    rcases hc with hc | hc | hc | hc | hc
    · rw [pj_we_13 hc] at he; exact va_alen X.1 X.2.1 X.2.2.2.2.2.1 g.2.1 q0 0 he pj_t0 rfl hd kk
    · rw [pj_we_14 hc] at he; exact va_alen X.1 X.2.1 X.2.2.2.2.2.1 g.2.1 q0 1 he pj_t1 rfl hd kk
    · rw [pj_we_15 hc] at he; exact va_alen X.1 X.2.1 X.2.2.2.2.2.1 g.2.1 q0 2 he pj_t2 rfl hd kk
    · rw [pj_we_16 hc] at he; exact va_alen X.1 X.2.1 X.2.2.2.2.2.1 g.2.1 q0 3 he pj_t3 rfl hd kk
    · rw [pj_we_17 hc] at he; exact va_alen X.1 X.2.1 X.2.2.2.2.2.1 g.2.1 q0 4 he pj_t4 rfl hd kk
theorem pj_upd_row {α : Type} (f : Nat → Nat → α) (a k : Nat) (v : α) : pj_u f a k v a = fun j => if j = k then v else f a j := funext fun j => by simp [pj_u]
theorem pj_ne0 (g : pj_wf Z) {a ci : Nat} (ha : Z.2.1 a = ci) (hc : ci < 18) : 0 ≠ a := by
  intro h
  subst h
  have := g.2.1
  omega
theorem pj_ias (X : pj_X ω p R s m args c bytes nL own) {a : Nat} {i x : Int32} (hd : decode bytes pc = .ok (.iastore, 1)) (ha : Z.2.1 a = 13) (hi : vp_in i (Z.2.2.1 a)) (g : pj_wd ω s Z I J H locs cells)
    (kk : ∀ H1 locs1, pj_wd ω s Z (pj_u I a i.toNatClampNeg x) J H1 locs1 cells → W p l e R s m args below meth c H1 locs1 cells slots QW (F0 m (pc + 1) ls rest)) : W p l e R s m args below meth c H locs cells slots QW (F0 m pc ls (.int x :: .int i :: .ref (pj_ad ω a) :: rest)) := by
  have h0 := pj_ne0 g.1 ha (by omega)
  obtain ⟨q0, rfl, hq, he⟩ := pj_cell g ha (by omega)
  rw [pj_we_13 ha] at he
  refine va_iast X.1 X.2.1 X.2.2.2.2.2.1 g.2.1 pj_wl_D g.2.2.2.1 q0 0 he pj_t0 hi hd (fun H1 locs1 hP _ hS => kk H1 locs1 (pj_wd_set g hq ?_ (fun j hj => pj_we_eq rfl rfl rfl (pj_u_fun _ _ _ _ hj) rfl) rfl g.1 rfl (pj_u_fun _ _ _ _ h0) hP hS))
  rw [pj_we_13 ha, pj_upd_row]
  rfl
theorem pj_las (X : pj_X ω p R s m args c bytes nL own) {a : Nat} {i : Int32} {x : Int64} (hd : decode bytes pc = .ok (.lastore, 1)) (ha : Z.2.1 a = 14) (hi : vp_in i (Z.2.2.1 a)) (g : pj_wd ω s Z I J H locs cells)
    (kk : ∀ H1 locs1, pj_wd ω s Z I (pj_u J a i.toNatClampNeg x) H1 locs1 cells → W p l e R s m args below meth c H1 locs1 cells slots QW (F0 m (pc + 1) ls rest)) : W p l e R s m args below meth c H locs cells slots QW (F0 m pc ls (.long x :: .int i :: .ref (pj_ad ω a) :: rest)) := by
  obtain ⟨q0, rfl, hq, he⟩ := pj_cell g ha (by omega)
  rw [pj_we_14 ha] at he
  refine va_last X.1 X.2.1 X.2.2.2.2.2.1 g.2.1 pj_wl_D g.2.2.2.1 q0 1 he pj_t1 hi hd (fun H1 locs1 hP _ hS => kk H1 locs1 (pj_wd_set g hq ?_ (fun j hj => pj_we_eq rfl rfl rfl rfl (pj_u_fun _ _ _ _ hj)) rfl g.1 rfl rfl hP hS))
  rw [pj_we_14 ha, pj_upd_row]
  rfl
theorem pj_bas (X : pj_X ω p R s m args c bytes nL own) {a : Nat} {i x : Int32} (hd : decode bytes pc = .ok (.bastore, 1)) (ha : Z.2.1 a = 15) (hi : vp_in i (Z.2.2.1 a)) (g : pj_wd ω s Z I J H locs cells)
    (kk : ∀ H1 locs1, pj_wd ω s Z (pj_u I a i.toNatClampNeg (x &&& 1)) J H1 locs1 cells → W p l e R s m args below meth c H1 locs1 cells slots QW (F0 m (pc + 1) ls rest)) : W p l e R s m args below meth c H locs cells slots QW (F0 m pc ls (.int x :: .int i :: .ref (pj_ad ω a) :: rest)) := by
  have h0 := pj_ne0 g.1 ha (by omega)
  obtain ⟨q0, rfl, hq, he⟩ := pj_cell g ha (by omega)
  rw [pj_we_15 ha] at he
  refine va_zast X.1 X.2.1 X.2.2.2.2.2.1 g.2.1 pj_wl_D g.2.2.2.1 q0 2 he pj_t2 hi hd (fun H1 locs1 hP _ hS => kk H1 locs1 (pj_wd_set g hq ?_ (fun j hj => pj_we_eq rfl rfl rfl (pj_u_fun _ _ _ _ hj) rfl) rfl g.1 rfl (pj_u_fun _ _ _ _ h0) hP hS))
  rw [pj_we_15 ha, pj_upd_row]
  rfl
theorem pj_aas (X : pj_X ω p R s m args c bytes nL own) {a v : Nat} {i : Int32} (hd : decode bytes pc = .ok (.aastore, 1)) (ha : Z.2.1 a = 16) (hv : Z.2.1 v = 7) (hi : vp_in i (Z.2.2.1 a)) (g : pj_wd ω s Z I J H locs cells)
    (kk : ∀ H1 locs1, pj_wd ω s (Z.1, Z.2.1, Z.2.2.1, pj_u Z.2.2.2 a i.toNatClampNeg (some v)) I J H1 locs1 cells → W p l e R s m args below meth c H1 locs1 cells slots QW (F0 m (pc + 1) ls rest)) : W p l e R s m args below meth c H locs cells slots QW (F0 m pc ls (.ref (pj_ad ω v) :: .int i :: .ref (pj_ad ω a) :: rest)) := by
  obtain ⟨q0, rfl, hq, he⟩ := pj_cell g ha (by omega)
  obtain ⟨q1, rfl, hq1, he1⟩ := pj_cell g hv (by omega)
  rw [pj_we_16 ha] at he
  rw [pj_we_obj hv (by omega)] at he1
  refine va_astq X.1 X.2.1 X.2.2.2.2.2.1 g.2.1 pj_wl_D g.2.2.2.1 q0 3 q1 7 (r := ("PegCoats$State", fT_7, 9)) he pj_t3 he1 rfl hi hd (fun H1 locs1 hP _ hS => kk H1 locs1 (pj_wd_set g hq ?_ (fun j hj => pj_we_eq rfl rfl (pj_u_fun _ _ _ _ hj) rfl rfl) rfl g.1 rfl rfl hP hS))
  rw [pj_we_16 (Z := (Z.1, Z.2.1, Z.2.2.1, pj_u Z.2.2.2 (q0 + 2) i.toNatClampNeg (some (q1 + 2)))) ha]
  congr 7
  funext j
  show Option.map (pj_ad ω) (pj_u Z.2.2.2 (q0 + 2) i.toNatClampNeg (some (q1 + 2)) (q0 + 2) j) = _
  rw [pj_upd_row]
  unfold va_up
  by_cases hj : j = i.toNatClampNeg
  · simp only [hj, if_true, Option.map_some]
  · simp only [hj, if_false]
end PA
