/-! a table of ints is made -/
theorem pj_outer (c : ClassId) (N h0 : Nat) : ∀ i : Nat, Jvm.Free.Multi.outerC c N h0 i = arrV c N (fun j => va_rf (if j < i then some (h0 + 1 + j) else none))
  | 0 => by
    show ({ cls := c, slots := Array.replicate N .null, vm := .none } : Cell) = _
    rw [arrV_new]
    refine congrArg (arrV c N) (funext fun j => ?_)
    simp [va_rf]
  | i + 1 => by
    show (Jvm.Free.Multi.outerC c N h0 i).setSlot i (.ref (h0 + 1 + i)) = _
    rw [pj_outer c N h0 i, arrV_store]
    refine congrArg (arrV c N) (funext fun j => ?_)
    by_cases e : j = i
    · subst e
      simp [updV, va_rf]
    · by_cases h : j < i
      · simp [updV, e, h, Nat.lt_succ_of_lt h]
      · simp [updV, e, h, show ¬ j < i + 1 by omega]
section PT
variable {ω : pj_Wd} {p : Program} {l : Launch} {e : Env} {R : Room} {s : State} {m : MethodId} {args : Array Value} {below : List Frame} {meth : Method} {c : Code} {nL : Nat} {QW : State → Prop} {bytes : ByteArray} {own : Nat} {pc : Nat} {Z : pj_Z} {I : Nat → Nat → Int32} {J : Nat → Nat → Int64} {H : Heap} {locs : List Loc} {ls : Array Slot} {cells slots : Nat} {rest : List Value}
set_option maxRecDepth 8000 in
theorem pj_mna (X : pj_X ω p R s m args c bytes nL own) {k : Nat} {n q : Int32} (hd : decode bytes pc = .ok (.multianewarray k 2, 4)) (ho : (own = 2 ∧ k = 9) ∨ (own = 9 ∧ k = 26)) (g : pj_wd ω s Z I J H locs cells) (hn : ¬ n < 0) (hq : ¬ q < 0) (hb1 : n.toNatClampNeg ≤ 1000) (hb2 : q.toNatClampNeg ≤ 1000)
    (hc : cells + (1 + n.toNatClampNeg) ≤ R.cells) (hs : slots + (n.toNatClampNeg + n.toNatClampNeg * q.toNatClampNeg) ≤ R.slots)
    (kk : ∀ H1, pj_wd ω s (pj_nZ2 Z n.toNatClampNeg q.toNatClampNeg) (pj_nI2 I Z.1 n.toNatClampNeg) J H1 locs (cells + 1 + n.toNatClampNeg) → W p l e R s m args below meth c H1 locs (cells + 1 + n.toNatClampNeg) (slots + n.toNatClampNeg + n.toNatClampNeg * q.toNatClampNeg) QW (F0 m (pc + 4) ls (.ref (pj_ad ω Z.1) :: rest))) :
    W p l e R s m args below meth c H locs cells slots QW (F0 m pc ls (.int q :: .int n :: rest)) := by
  refine pj_size X g (fun hsz hsz2 => ?_)
  intro T hT XX
  have hclink : (Cond.classLink (cn own) k ("[" ++ (FieldType.array .int).toString)).before args s = true := by
    rcases ho with ⟨rfl, rfl⟩ | ⟨rfl, rfl⟩
    · exact X.2.2.2.2.1 _ (pj_tb (k := 371) (by decide +kernel))
    · exact X.2.2.2.2.1 _ (pj_tb (k := 416) (by decide +kernel))
  have hover : (Cond.arrayOver (.array .int)).before args s = true := X.2.2.2.2.1 _ (pj_tb (k := 372) (by decide +kernel))
  have harr : (Cond.arrayClass .int).before args s = true := X.2.2.2.2.1 _ (pj_tb (k := 46) (by decide +kernel))
  obtain ⟨vm₁, cA, comp, -, fA, fC, -, -, X', step⟩ := XX.multianewarray2F X.1 X.2.2.2.1 hclink hover harr (g := F0 m pc ls (.int q :: .int n :: rest)) rfl (by rw [X.2.1]; exact hd) rfl hn hq (by omega) (by show q.toNatClampNeg * 4 ≤ _; omega) (by omega) rfl rfl hc hs
  have hK := X.2.2.2.2.2.1
  have eA : cA = ω.2.1 4 := Option.some.inj (fA.symm.trans (pj_RA (hK.2 4 _ pj_t4).2))
  have eC : comp = ω.2.1 0 := Option.some.inj (fC.symm.trans (pj_RA (hK.2 0 _ pj_t0).2))
  subst eA
  subst eC
  generalize hF : Jvm.Free.Multi.fill (T.setVm vm₁) (ω.2.1 4) (ω.2.1 0) n.toNatClampNeg q.toNatClampNeg (defaultValue .int) n.toNatClampNeg = F at X' step
  have hTh : (T.setVm vm₁).heap = H := hT
  obtain ⟨f1, f2, -, -⟩ := Jvm.Free.Multi.fill_facts (T.setVm vm₁) (ω.2.1 4) (ω.2.1 0) n.toNatClampNeg q.toNatClampNeg (defaultValue .int) n.toNatClampNeg
  rw [hF, hTh] at f1 f2
  have hold : ∀ x : Nat, x < H.size → F.heap[x]? = H[x]? := fun x hx => by
    have := Jvm.Free.Multi.fill_old (T.setVm vm₁) (ω.2.1 4) (ω.2.1 0) n.toNatClampNeg q.toNatClampNeg (defaultValue .int) (a := x) (by rw [hTh]; exact hx) n.toNatClampNeg
    rw [hF, hTh] at this
    exact this
  have hrow : ∀ j : Nat, j < n.toNatClampNeg → F.heap[H.size + 1 + j]? = some (vp_cell (ω.2.1 0) (q.toNatClampNeg, .inl (fun _ => 0))) := fun j hj => by
    have := Jvm.Free.Multi.fill_inner (T.setVm vm₁) (ω.2.1 4) (ω.2.1 0) n.toNatClampNeg q.toNatClampNeg (defaultValue .int) n.toNatClampNeg j hj
    rw [hF, hTh] at this
    rw [this, vp_cell_i, ← arrV_new]
    rfl
  rw [pj_outer] at f2
  obtain ⟨⟨w1, w2, w3, w4⟩, g2, g3, g4, g5, g6⟩ := g
  have hne : ∀ k, k < Z.1 → k ≠ Z.1 ∧ ¬ (Z.1 < k ∧ k < Z.1 + 1 + n.toNatClampNeg) := fun k h => ⟨by omega, by omega⟩
  have hwd : pj_wd ω s (pj_nZ2 Z n.toNatClampNeg q.toNatClampNeg) (pj_nI2 I Z.1 n.toNatClampNeg) J F.heap locs (cells + 1 + n.toNatClampNeg) := by
    refine ⟨⟨by show 2 ≤ Z.1 + 1 + n.toNatClampNeg; omega, ?_, ?_, fun k hk => ?_⟩, fun k x hx => ?_, ?_, ⟨by rw [f1]; have := g4.1; omega, fun x h1 h2 => (hold x (Nat.lt_of_lt_of_le h1 g4.1)).trans (g4.2.1 x h1 h2), g4.2.2⟩, ?_, ?_⟩
    · show (if 0 = Z.1 then 17 else if Z.1 < 0 ∧ 0 < Z.1 + 1 + n.toNatClampNeg then 13 else Z.2.1 0) = 18
      rw [if_neg (hne 0 (by omega)).1, if_neg (hne 0 (by omega)).2]; exact w2
    · show (if 1 = Z.1 then 17 else if Z.1 < 1 ∧ 1 < Z.1 + 1 + n.toNatClampNeg then 13 else Z.2.1 1) = 19
      rw [if_neg (hne 1 (by omega)).1, if_neg (hne 1 (by omega)).2]; exact w3
    · have hk : Z.1 + 1 + n.toNatClampNeg ≤ k := hk
      show (if k = Z.1 then 17 else if Z.1 < k ∧ k < Z.1 + 1 + n.toNatClampNeg then 13 else Z.2.1 k) = 20
      rw [if_neg (by omega), if_neg (by omega)]; exact w4 k (by omega)
    · obtain ⟨hk, rfl⟩ := pj_wl_inv hx
      have hk : k + 2 < Z.1 + 1 + n.toNatClampNeg := hk
      rcases Nat.lt_trichotomy (k + 2) Z.1 with h | h | h
      · have ho := g2 k _ (pj_wl_get h)
        have hlt : ω.2.2.2.2.1 + k < H.size := ho.lt
        have e1 : pj_we ω (pj_nZ2 Z n.toNatClampNeg q.toNatClampNeg) (pj_nI2 I Z.1 n.toNatClampNeg) J (k + 2) = pj_we ω Z I J (k + 2) := by
          have h1 := hne (k + 2) h
          refine pj_we_eq ?_ ?_ ?_ ?_ rfl
          · show (if k + 2 = Z.1 then 17 else if Z.1 < k + 2 ∧ k + 2 < Z.1 + 1 + n.toNatClampNeg then 13 else Z.2.1 (k + 2)) = _
            rw [if_neg h1.1, if_neg h1.2]
          · show (if k + 2 = Z.1 then n.toNatClampNeg else if Z.1 < k + 2 ∧ k + 2 < Z.1 + 1 + n.toNatClampNeg then q.toNatClampNeg else Z.2.2.1 (k + 2)) = _
            rw [if_neg h1.1, if_neg h1.2]
          · show (if k + 2 = Z.1 then _ else Z.2.2.2 (k + 2)) = _
            rw [if_neg h1.1]
          · show (if Z.1 < k + 2 ∧ k + 2 < Z.1 + 1 + n.toNatClampNeg then _ else I (k + 2)) = _
            rw [if_neg h1.2]
        rw [e1]
        exact ho.kept (hold _ hlt)
      · have hkd : (pj_nZ2 Z n.toNatClampNeg q.toNatClampNeg).2.1 (k + 2) = 17 := by
          show (if k + 2 = Z.1 then 17 else _) = 17
          rw [if_pos h]
        have hln : (pj_nZ2 Z n.toNatClampNeg q.toNatClampNeg).2.2.1 (k + 2) = n.toNatClampNeg := by
          show (if k + 2 = Z.1 then n.toNatClampNeg else _) = _
          rw [if_pos h]
        have hrr : (pj_nZ2 Z n.toNatClampNeg q.toNatClampNeg).2.2.2 (k + 2) = fun j => if j < n.toNatClampNeg then some (Z.1 + 1 + j) else none := by
          show (if k + 2 = Z.1 then _ else _) = _
          rw [if_pos h]
        rw [pj_we_17 hkd, hln, hrr]
        show F.heap[ω.2.2.2.2.1 + k]? = some (vp_cell (ω.2.1 4) _)
        rw [show ω.2.2.2.2.1 + k = H.size by omega, f2, vp_cell_q]
        congr 2
        funext j
        by_cases hj : j < n.toNatClampNeg
        · rw [if_pos hj]; dsimp only; rw [if_pos hj]
          show va_rf (some (H.size + 1 + j)) = va_rf (some (pj_ad ω (Z.1 + 1 + j)))
          rw [show Z.1 + 1 + j = (Z.1 - 2 + 1 + j) + 2 by omega]
          show va_rf (some (H.size + 1 + j)) = va_rf (some (ω.2.2.2.2.1 + (Z.1 - 2 + 1 + j)))
          rw [show H.size + 1 + j = ω.2.2.2.2.1 + (Z.1 - 2 + 1 + j) by omega]
        · rw [if_neg hj]; dsimp only; rw [if_neg hj]
          rfl
      · have hkd : (pj_nZ2 Z n.toNatClampNeg q.toNatClampNeg).2.1 (k + 2) = 13 := by
          show (if k + 2 = Z.1 then 17 else if Z.1 < k + 2 ∧ k + 2 < Z.1 + 1 + n.toNatClampNeg then 13 else Z.2.1 (k + 2)) = 13
          rw [if_neg (by omega), if_pos ⟨h, hk⟩]
        have hln : (pj_nZ2 Z n.toNatClampNeg q.toNatClampNeg).2.2.1 (k + 2) = q.toNatClampNeg := by
          show (if k + 2 = Z.1 then n.toNatClampNeg else if Z.1 < k + 2 ∧ k + 2 < Z.1 + 1 + n.toNatClampNeg then q.toNatClampNeg else Z.2.2.1 (k + 2)) = _
          rw [if_neg (by omega), if_pos ⟨h, hk⟩]
        have hii : pj_nI2 I Z.1 n.toNatClampNeg (k + 2) = fun _ => 0 := by
          show (if Z.1 < k + 2 ∧ k + 2 < Z.1 + 1 + n.toNatClampNeg then _ else I (k + 2)) = _
          rw [if_pos ⟨h, hk⟩]
        rw [pj_we_13 hkd, hln, hii]
        show F.heap[ω.2.2.2.2.1 + k]? = some (vp_cell (ω.2.1 0) _)
        rw [show ω.2.2.2.2.1 + k = H.size + 1 + (k + 2 - Z.1 - 1) by omega]
        exact hrow _ (by omega)
    · show s.heap.size + (cells + 1 + n.toNatClampNeg) = ω.2.2.2.2.1 + (Z.1 + 1 + n.toNatClampNeg - 2)
      omega
    · show (if 0 = Z.1 then n.toNatClampNeg else if Z.1 < 0 ∧ 0 < Z.1 + 1 + n.toNatClampNeg then q.toNatClampNeg else Z.2.2.1 0) = _
      rw [if_neg (hne 0 (by omega)).1, if_neg (hne 0 (by omega)).2]; exact g5
    · show (if Z.1 < 0 ∧ 0 < Z.1 + 1 + n.toNatClampNeg then _ else I 0) = _
      rw [if_neg (hne 0 (by omega)).2]; exact g6
  obtain ⟨t, a1, b1⟩ := kk F.heap hwd F rfl X'
  refine ⟨t, step t ?_, b1⟩
  have e : T.heap.size = pj_ad ω Z.1 := by rw [hT, hsz]; exact pj_adn w1
  rw [e]
  exact a1
end PT
