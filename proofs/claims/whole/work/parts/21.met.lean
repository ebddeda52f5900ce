/-! contracts of all our methods, by depth -/
theorem pj_en_len : ∀ (ω : pj_Wd) (vs : List Value), (lg_sl (vs.map (pj_cv ω))).length = (pj_en vs).length
  | ω, [] => rfl
  | ω, v :: vs => by
    have ih := pj_en_len ω vs
    unfold lg_sl at ih ⊢
    rw [List.map_cons, List.flatMap_cons, List.length_append, ih, pj_cv_cat]
    cases v <;> simp [pj_en, Value.category] <;> omega
theorem pj_pad_get {n i : Nat} {L : pj_L} {v : Value} (h : (pj_pad n L)[i]? = some (some v)) : L[i]? = some (some v) := by
  unfold pj_pad at h
  rcases Nat.lt_or_ge i L.length with q | q
  · rw [List.getElem?_append_left q] at h
    exact h
  · rw [List.getElem?_append_right q, List.getElem?_replicate] at h
    split at h <;> cases h
theorem pj_enter (ω : pj_Wd) (as : List Value) {n : Nat} (h : (pj_en as).length ≤ n) : pj_lr ω ((lg_sl (as.map (pj_cv ω)) ++ List.replicate (n - (lg_sl (as.map (pj_cv ω))).length) Slot.unset).toArray) n (pj_pad n (pj_en as)) := by
  refine ⟨by unfold pj_pad; rw [List.length_append, List.length_replicate]; omega, lv_args 0 (as.map (pj_cv ω)), lv_entry (as.map (pj_cv ω)) (by rw [pj_en_len]; exact h), fun i v e => ?_⟩
  have := pj_en_args (ω := ω) as 0 i v (pj_pad_get e)
  rwa [Nat.zero_add] at this
/-- every instruction of the method is in order -/
def pj_okB (k : Nat) (t : pj_T) : Prop := t.2.2.all (pj_oD t.1.2.1) = true ∧ t.2.2.all (pj_oM t.2.1.1 (decide ((mp k).2 = 2)) (pj_rk t.1.2.2.2)) = true
theorem pj_Cn {d : Nat} : ∀ (x : Nat) (as : List Value) (σ : pj_S) (K : pj_K), tm x = none → pj_C tm ta d x as σ K → False := by
  intro x as σ K ht h
  cases d with
  | zero => exact h
  | succ d =>
    unfold pj_C at h
    rw [ht] at h
    exact h
set_option maxHeartbeats 4000000 in
theorem pj_met (l : Launch) (ω : pj_Wd) (hB : ∀ k t, tm k = some t → pj_okB k t) : ∀ d, pj_hM l ω (pj_C tm ta d) d
  | 0 => fun k as σ K t hk ht h => h.elim
  | d + 1 => by
    intro k as σ K t hk ht h
    have ih := pj_met l ω hB d
    unfold pj_C at h
    rw [ht] at h
    obtain ⟨hle, h⟩ := pj_c_e h
    have hle := Nat.le_of_ble_eq_true hle
    have hP := pj_okAll hk ht
    obtain ⟨hD, hO⟩ := hB k t ht
    obtain ⟨hpl, hcls, hcode, hini, hy1, hy2, hpar, hml40, hrt, hret, hkind⟩ := hP
    refine Met.ofW (cc := t.1.2.1) (maxL := t.1.2.2.1) (ret := t.1.2.2.2) hpl rfl ?_
    intro p e s m args below meth c s₁ B hml hv
    obtain ⟨hargs, hwf, hPh, hsz, hK, hn0, hI0, hX, hbl, hst⟩ := hv
    subst hargs
    have hts0 := atoms_spec (ws := pj_ws t) B.pre
    have hts : ∀ w ∈ pj_tbl, w.before (as.map (pj_cv ω)).toArray s = true := fun w hw => hts0 w (List.mem_cons_of_mem _ hw)
    have hown : s.vm.findClass (cn t.2.1.1) = some m.cls := by rw [← hcls]; exact findClass_of_methodNamed B.named
    have hlocks := B.notSynchronized
    have hr := B.returns
    have hname : meth.name = t.1.1.name := (name_of_methodNamed B.named B.method).1
    have hsz1 : ω.2.2.2.2.1 ≤ s.heap.size := by rw [hsz]; exact Nat.le_add_right _ _
    have X : pj_X ω p (pj_rm (d + 1) k) s m (as.map (pj_cv ω)).toArray c t.1.2.1 t.1.2.2.1 t.2.1.1 :=
      ⟨B.exec, B.bytes, hml, hown, hts, hK, hsz1, ⟨hX, hbl, Nat.lt_of_lt_of_le hbl hsz1⟩, by show 64 ≤ 64 * (d + 1) + 640; omega, by show 1 ≤ d + 1 + 10; omega, hst⟩
    have hini2 : decide ((mp k).2 = 2) = true → meth.name = "<init>" := by
      intro q
      have q := of_decide_eq_true q
      rw [hname]
      rcases hkind with ⟨q1, -⟩ | ⟨q1, -⟩ | ⟨-, -, q2, -⟩
      · rw [q] at q1; cases q1
      · rw [q] at q1; cases q1
      · exact q2
    have hE : pj_end ω p l e (pj_rm (d + 1) k) s m (as.map (pj_cv ω)).toArray below meth c t.1.2.1 (MQ below (pj_Qc ω (ta k).1 K) (as.map (pj_cv ω)).toArray s (ta k).1 (ta k).2 (fun x => ω.2.2.2.2.1 ≤ x)) t.2.1.2 (pj_rk t.1.2.2.2) K := by
      have fin : ∀ (r : Option Value) (Z : pj_Z) (I : Nat → Nat → Int32) (J : Nat → Nat → Int64) (H : Heap) (locs : List Loc), K r (Z, I, J) → pj_wd ω s Z I J H locs (ta k).1 → ∀ u : State, u.heap = H → s.WarmedH u.vm → pj_Qc ω (ta k).1 K (as.map (pj_cv ω)).toArray s (.returned (r.map (pj_cv ω))) u := by
        intro r Z I J H locs hk g u hu hw
        exact ⟨⟨r, (Z, I, J), hk, rfl, g.1, by rw [hu]; exact g.2.1, g.2.2.1, g.2.2.2.2.1, g.2.2.2.2.2⟩, g.2.2.2.1.F hu⟩
      refine ⟨?_, ?_, ?_⟩
      · intro pc H locs ls Z I J a hk hd ha hq g
        rcases hret with q | q | q | q
        · rw [q] at hk; rcases hk with hk | hk <;> cases hk
        · exact W.iret B.exec B.bytes (by rw [hr, q]) (fun u hu hw => fin (some (.int a)) Z I J H locs hq g u hu hw) g.2.2.2.1.2.2 hd
        · rw [q] at hk; rcases hk with hk | hk <;> cases hk
        · have ha := ha (by rw [hrt, q]; rfl)
          exact W.zret (ty := .boolean) B.exec B.bytes (by rw [hr, q]) (by show Value.int (a &&& 1) = _; rw [ha]) (fun u hu hw => fin (some (.int a)) Z I J H locs hq g u hu hw) g.2.2.2.1.2.2 hd
      · intro pc H locs ls Z I J a hk hd hq g
        rcases hret with q | q | q | q
        · rw [q] at hk; cases hk
        · rw [q] at hk; cases hk
        · exact W.lret B.exec B.bytes (by rw [hr, q]) (fun u hu hw => fin (some (.long a)) Z I J H locs hq g u hu hw) g.2.2.2.1.2.2 hd
        · rw [q] at hk; cases hk
      · intro pc H locs ls Z I J hk hd hq g
        rcases hret with q | q | q | q
        · exact W.vret B.exec B.bytes (by rw [hr, q]) (fun u hu hw => fin none Z I J H locs hq g u hu hw) g.2.2.2.1.2.2 hd
        · rw [q] at hk; cases hk
        · rw [q] at hk; cases hk
        · rw [q] at hk; cases hk
    have walk := h (pj_W ω p l e (pj_rm (d + 1) k) s m (as.map (pj_cv ω)).toArray below meth c t.1.2.2.1 (MQ below (pj_Qc ω (ta k).1 K) (as.map (pj_cv ω)).toArray s (ta k).1 (ta k).2 (fun x => ω.2.2.2.2.1 ≤ x))) (fun pc L st Z I J bc bs q => by
      unfold pj_1 at q
      cases hat : pj_at pc t.2.2 with
      | none => rw [hat] at q; exact q.elim
      | some en =>
        rw [hat] at q
        obtain ⟨i, len, nx, ⟨x, y, z⟩, w, v, sw⟩ := en
        obtain ⟨ch, hch, hmem⟩ := pj_at_mem hat
        have h1 := List.all_eq_true.mp (List.all_eq_true.mp hD ch hch) _ hmem
        have h2 := List.all_eq_true.mp (List.all_eq_true.mp hO ch hch) _ hmem
        exact pj_step X ih (by show d + 11 ≤ d + 1 + 10; omega) (by show 64 * d + 704 ≤ 64 * (d + 1) + 640; omega) hini2 hE pj_Cn (of_decide_eq_true h1) h2 q)
    have hs0 : pj_wd ω s σ.1 σ.2.1 σ.2.2 s.heap [] 0 := ⟨hwf, hPh, by rw [hsz]; rfl, va_S.rf, hn0, hI0⟩
    rw [lg_entry_eq]
    exact walk s.heap [] _ 0 0 hs0 (Nat.zero_add _) (Nat.zero_add _) (pj_enter ω as hle)
