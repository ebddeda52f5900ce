/-! acts: the history, a year kept -/
def cF (I I' : Nat → Nat → Int32) : Prop := ∀ c j, 276 ≤ c ∨ c = 0 → I' c j = I c j
def mF (I I' : Nat → Nat → Int32) : Prop := ∀ c j, c < 276 → I' c j = I c j
theorem cF_tr {I I' I'' : Nat → Nat → Int32} (h : cF I I') (h' : cF I' I'') : cF I I'' := fun c j hc => (h' c j hc).trans (h c j hc)
theorem mF_tr {I I' I'' : Nat → Nat → Int32} (h : mF I I') (h' : mF I' I'') : mF I I'' := fun c j hc => (h' c j hc).trans (h c j hc)
theorem cF_u {I I' : Nat → Nat → Int32} {a k : Nat} {x : Int32} (ha : 0 < a ∧ a < 276) (h : cF I I') : cF I (pj_u I' a k x) := fun c j hc => (pj_u_n (by omega)).trans (h c j hc)
theorem mF_u {I I' : Nat → Nat → Int32} {a k : Nat} {x : Int32} (ha : 276 ≤ a) (h : mF I I') : mF I (pj_u I' a k x) := fun c j hc => (pj_u_n (by omega)).trans (h c j hc)
theorem lS_i {a c j : Nat} (h1 : c < a ∨ a + 7 < c) : lS a c j = false := by
  unfold lS
  rw [rg_l (by omega), beq_eq_false_iff_ne.mpr (by omega)]
  rfl
theorem AV_push {A : Ab} (h : AV A) : AV A.push := by
  obtain ⟨h1, h2, h3, h4, h5, h6, h7, h8, h9, h10⟩ := h
  refine ⟨h1, h2, h3, h4, h5, h6, ?_, fun i hi => ?_, fun i j hij hj => ?_, h10⟩
  · show (if A.hs.1 + 1 < 20 then A.hs.1 + 1 else 20) ≤ 20
    split <;> omega
  · have hi : i < (if A.hs.1 + 1 < 20 then A.hs.1 + 1 else 20) := hi
    show LV A.W (if i = 0 then (A.L, A.kp.1) else A.hs.2 (i - 1)).1 ∧ (if i = 0 then (A.L, A.kp.1) else A.hs.2 (i - 1)).2 ≤ (if i = 0 then (A.L, A.kp.1) else A.hs.2 (i - 1)).1.yr ∧ (if i = 0 then (A.L, A.kp.1) else A.hs.2 (i - 1)).2 ≤ A.kp.1
    by_cases e : i = 0
    · rw [if_pos e]; exact ⟨h4, h5, Nat.le_refl _⟩
    · rw [if_neg e]; exact h8 (i - 1) (by split at hi <;> omega)
  · have hj : j < (if A.hs.1 + 1 < 20 then A.hs.1 + 1 else 20) := hj
    show (if j = 0 then (A.L, A.kp.1) else A.hs.2 (j - 1)).2 ≤ (if i = 0 then (A.L, A.kp.1) else A.hs.2 (i - 1)).2
    by_cases e : i = 0
    · rw [if_pos e]
      by_cases e2 : j = 0
      · rw [if_pos e2]; exact Nat.le_refl _
      · rw [if_neg e2]; exact (h8 (j - 1) (by split at hj <;> omega)).2.2
    · rw [if_neg e, if_neg (by omega)]
      exact h9 (i - 1) (j - 1) (by omega) (by split at hj <;> omega)
theorem AV_pop {A : Ab} (h : AV A) (h0 : 0 < A.hs.1) : AV A.pop := by
  obtain ⟨h1, h2, h3, h4, h5, h6, h7, h8, h9, h10⟩ := h
  have z := h8 0 h0
  refine ⟨h1, h2, h3, z.1, z.2.1, fun i hi => h6 i (Nat.lt_of_lt_of_le hi z.2.2), Nat.le_trans (Nat.sub_le _ _) h7, fun i hi => ?_, fun i j hij hj => ?_, h10⟩
  · have hi : i < A.hs.1 - 1 := hi
    have y := h8 (i + 1) (by omega)
    exact ⟨y.1, y.2.1, h9 0 (i + 1) (by omega) (by omega)⟩
  · have hj : j < A.hs.1 - 1 := hj
    exact h9 (i + 1) (j + 1) (by omega) (by omega)
theorem AV_sL {A : Ab} {L' : Ly} (h : AV A) (hL : LV A.W L') (hy : A.L.yr ≤ L'.yr) : AV (A.sL L') := by
  obtain ⟨h1, h2, h3, h4, h5, h6⟩ := h
  exact ⟨h1, h2, h3, hL, Nat.le_trans h5 hy, h6⟩
/-- a year kept -/
def Ab.yr1 (A : Ab) : Ab := A.sK (yea A.W none A.L) (A.kp.1 + 1, upd1 A.kp.2 A.kp.1 (A.L.yr, (y3 A.W none A.L).2, (y2 A.W A.L).2))
theorem AV_yr1 {A : Ab} (h : AV A) (hy : A.L.yr < 999) : AV A.yr1 := by
  obtain ⟨h1, h2, h3, h4, h5, h6, h7, h8, h9, h10⟩ := h
  have v := yea_V (w := none) h4 hy
  have vv := yea_LV (w := none) h4
  refine ⟨h1, h2, h3, v.1, ?_, fun i hi => ?_, h7, fun i hi => ?_, h9, h10⟩
  · show A.kp.1 + 1 ≤ (yea A.W none A.L).yr
    rw [v.2]; omega
  · have hi : i < A.kp.1 + 1 := hi
    show (upd1 A.kp.2 A.kp.1 _ i).1 ≤ 999 ∧ (upd1 A.kp.2 A.kp.1 _ i).2.1 ≤ 7 ∧ (upd1 A.kp.2 A.kp.1 _ i).2.2 ≤ 7
    by_cases e : i = A.kp.1
    · rw [e, upd1_e]
      exact ⟨by show A.L.yr ≤ 999; omega, by have := vv.2.2.2.2.2.2; show (y3 A.W none A.L).2 ≤ 7; omega, by have := vv.2.2.2.2.2.1; show (y2 A.W A.L).2 ≤ 7; omega⟩
    · rw [upd1_n e]; exact h6 i (by omega)
  · have y := h8 i hi
    exact ⟨y.1, y.2.1, Nat.le_succ_of_le y.2.2⟩
section PAc
variable {n h : Nat} {Q : pj_K} {I I' : Nat → Nat → Int32} {J J' : Nat → Nat → Int64} {A : Ab}
/-- History.save -/
theorem c10 (hh : 2 ≤ h) (hA : AV A) (hI : InvC A I) (q : ∀ I', cF I I' → InvC A.push I' → Q none (zc n, I', J)) : pj_D h 10 [.ref 59, .ref 35] (zc n, I, J) Q := by
  have hI0 := hI
  have h20 := hA.2.2.2.2.2.2.1
  obtain ⟨a1, a2, a3, a4, ⟨nx, c1, c2, c3, c4⟩, -⟩ := hI
  refine s10 hh c2 c1 c3 h20 (fun I1 hc => ?_)
  have fr : ∀ c j, c < 61 + 8 * nx ∨ 61 + 8 * nx + 7 < c → I1 c j = I c j := fun c j hcj => hc.2.2.2.2.2.2.2.2.2 c j (lS_i hcj)
  have L1 := LC_cp hA.2.1 hA.2.2.1 hc a3
  have k1 : I1 (61 + 8 * nx) 8 = nI A.kp.1 := hc.2.2.2.2.2.2.2.2.1.trans a4.2.1
  generalize hX : pj_u (pj_u I1 59 2 (nI ((nx + 1) % 20))) 59 1 (nI (if A.hs.1 + 1 < 20 then A.hs.1 + 1 else 20)) = X
  have x : ∀ c j, c ≠ 59 → X c j = I1 c j := fun c j hc => by rw [← hX]; exact (pj_u_n hc).trans (pj_u_n hc)
  have f : ∀ c j, (c ≤ 42 ∨ 221 ≤ c) → X c j = I c j := fun c j hcj => (x c j (by omega)).trans (fr c j (by omega))
  refine q X (fun c j hc => f c j (by omega)) (InvC_ex hI0 rfl (Or.inl ⟨rfl, fun c j hc => f c j (by omega)⟩) (fun c j h1 h2 => f c j (by omega)) (Or.inl ⟨rfl, fun c j h1 h2 => f c j (by omega), f _ _ (by omega)⟩) (Or.inl ⟨rfl, f _ _ (by omega), fun j => f _ _ (by omega)⟩) (Or.inr ⟨(nx + 1) % 20, Nat.mod_lt _ (by decide), ?_, ?_, fun i hi => ?_⟩) (Or.inl ⟨rfl, fun j => f _ _ (by omega)⟩) (Or.inl ⟨rfl, f _ _ (by omega)⟩) (Or.inl ⟨rfl, f _ _ (by omega), f _ _ (by omega)⟩) (Or.inl ⟨rfl, f _ _ (by omega), fun j => f _ _ (by omega)⟩) (Or.inl ⟨rfl, fun c j hc => f c j (by omega)⟩) (fun j => f _ _ (by omega)))
  · rw [← hX, pj_u_j (by decide), pj_u_e]
  · rw [← hX, pj_u_e]; rfl
  · have hi : i < (if A.hs.1 + 1 < 20 then A.hs.1 + 1 else 20) := hi
    show LC A.W _ (if i = 0 then (A.L, A.kp.1) else A.hs.2 (i - 1)).1 X ∧ X _ 8 = nI (if i = 0 then (A.L, A.kp.1) else A.hs.2 (i - 1)).2
    by_cases e : i = 0
    · rw [if_pos e, e, show ((nx + 1) % 20 + 19 - 0) % 20 = nx by omega]
      exact ⟨LC_fr (fun c j h1 h2 => x c j (by omega)) L1, (x _ _ (by omega)).trans k1⟩
    · have hi2 : i - 1 < A.hs.1 ∧ i ≤ 19 := by split at hi <;> omega
      have z := c4 (i - 1) hi2.1
      rw [if_neg e, show ((nx + 1) % 20 + 19 - i) % 20 = (nx + 19 - (i - 1)) % 20 by omega]
      have ne : (nx + 19 - (i - 1)) % 20 ≠ nx := by omega
      generalize (nx + 19 - (i - 1)) % 20 = t at z ne
      exact ⟨LC_fr (fun c j h1 h2 => (x c j (by omega)).trans (fr c j (by omega))) z.1, (x _ _ (by omega)).trans ((fr _ _ (by omega)).trans z.2)⟩
/-- PegCoatsModel.keeps -/
theorem m250 (hh : 2 ≤ h) (hA : AV A) (hI : InvM A I J) (q : ∀ I', mF I I' → InvM A.push I' J → Q none (zc n, I', J)) : pj_D h 250 [.ref 276] (zc n, I, J) Q := by
  have hI0 := hI
  have h20 := hA.2.2.2.2.2.2.1
  have h8 := hA.2.1
  have h7 := hA.2.2.1
  obtain ⟨a1, -, a3, a4, ⟨u, c1, c2, c3, c4⟩, -⟩ := hI
  have fin : ∀ (v u' : Nat) (I0 I1 : Nat → Nat → Int32), 2 ≤ v → v < 22 → u' < 20 → (∀ c j, c ≠ 276 ∨ (j ≠ 52 ∧ j ≠ 53) → I0 c j = I c j) → I0 276 52 = nI u' → mcp v 0 (tld A.kp.1) I0 I1 → v = 2 + (u' + ((if A.hs.1 + 1 < 20 then A.hs.1 + 1 else 20) - 1)) % 20 →
      (∀ i, 1 ≤ i → i < (if A.hs.1 + 1 < 20 then A.hs.1 + 1 else 20) → 2 + (u' + ((if A.hs.1 + 1 < 20 then A.hs.1 + 1 else 20) - 1 - i)) % 20 = 2 + (u + (A.hs.1 - 1 - (i - 1))) % 20 ∧ 2 + (u + (A.hs.1 - 1 - (i - 1))) % 20 ≠ v ∧ i - 1 < A.hs.1) →
      Q none (zc n, pj_u I1 276 53 (nI (if A.hs.1 + 1 < 20 then A.hs.1 + 1 else 20)), J) := by
    intro v u' I0 I1 v2 v22 hu' f0 e52 hc ev hix
    have frm := hc.2.2.2.2.2.2.2.2.2.2
    have L0 : LM A.W 0 A.L I0 := LM_x h8 h7 (v := 1) (by decide) (fun c j _ _ _ => f0 c j (by omega)) a3
    have K0 : KM 0 A.kp.1 A.kp.2 I0 := KM_x (v := 1) (by decide) (fun c j _ _ _ => f0 c j (by omega)) a4
    have L1 := LM_cp h8 h7 hc L0
    have K1 := KM_cp hc K0
    generalize hX : pj_u I1 276 53 (nI (if A.hs.1 + 1 < 20 then A.hs.1 + 1 else 20)) = X
    have x : ∀ c j, c ≠ 276 → X c j = I1 c j := fun c j hc => by rw [← hX]; exact pj_u_n hc
    have x6 : ∀ j, j ≠ 52 → j ≠ 53 → X 276 j = I 276 j := fun j j1 j2 => by rw [← hX, pj_u_j j2, frm 276 j rfl]; exact f0 _ _ (Or.inr ⟨j1, j2⟩)
    have f : ∀ c j, c ≠ 276 → (c < 299 ∨ 308 < c) → X c j = I c j := fun c j hc hc2 => (x c j hc).trans ((frm c j (mS_f hc2)).trans (f0 c j (Or.inl hc)))
    have g : ∀ c j, 299 ≤ c → c ≤ 308 → mS v c j = false → X c j = I c j := fun c j h1 h2 h3 => (x c j (by omega)).trans ((frm c j h3).trans (f0 c j (by omega)))
    refine q X (fun c j hc => f c j (by omega) (by omega)) (InvM_ex hI0 rfl (Or.inl ⟨rfl, x6 _ (by decide) (by decide), fun j => f _ _ (by decide) (by decide)⟩) ⟨x6 _ (by decide) (by decide), fun c j h1 h2 => f c j (by omega) (by omega), fun c j h1 h2 => rfl⟩ (LM_x h8 h7 (by omega) g a3) (KM_x (by omega) g a4) ⟨u', hu', ?_, ?_, fun i hi => ?_⟩ (Or.inl ⟨rfl, fun j => f _ _ (by decide) (by decide)⟩) (Or.inl ⟨rfl, rfl⟩) (Or.inl ⟨rfl, x6 _ (by decide) (by decide), x6 _ (by decide) (by decide)⟩) (Or.inl ⟨rfl, x6 _ (by decide) (by decide), fun c j h1 h2 => f c j (by omega) (by omega)⟩) (Or.inl ⟨rfl, x6 _ (by decide) (by decide), fun j => f _ _ (by decide) (by decide)⟩))
    · rw [← hX, pj_u_j (by decide), frm 276 52 rfl]; exact e52
    · rw [← hX, pj_u_e]; rfl
    · have hi : i < (if A.hs.1 + 1 < 20 then A.hs.1 + 1 else 20) := hi
      show LM A.W (2 + (u' + ((if A.hs.1 + 1 < 20 then A.hs.1 + 1 else 20) - 1 - i)) % 20) (if i = 0 then (A.L, A.kp.1) else A.hs.2 (i - 1)).1 X ∧ KM (2 + (u' + ((if A.hs.1 + 1 < 20 then A.hs.1 + 1 else 20) - 1 - i)) % 20) (if i = 0 then (A.L, A.kp.1) else A.hs.2 (i - 1)).2 A.kp.2 X
      by_cases e : i = 0
      · rw [if_pos e, e, Nat.sub_zero, ← ev]
        exact ⟨LM_x h8 h7 (v := 1) (by omega) (fun c j _ _ _ => x c j (by omega)) L1, KM_x (v := 1) (by omega) (fun c j _ _ _ => x c j (by omega)) K1⟩
      · obtain ⟨i1, i2, i3⟩ := hix i (by omega) hi
        rw [if_neg e, i1]
        exact ⟨LM_x h8 h7 i2 g (c4 (i - 1) i3).1, KM_x i2 g (c4 (i - 1) i3).2⟩
  refine s250 hh c2 c1 c3 h20 a4.1 (tld_le _).2 (fun hlt I1 hc => ?_) (fun he I1 hc => ?_)
  · have e : (if A.hs.1 + 1 < 20 then A.hs.1 + 1 else 20) = A.hs.1 + 1 := by split <;> omega
    have := fin (2 + (u + A.hs.1) % 20) u I I1 (by omega) (by omega) c1 (fun c j _ => rfl) c2 hc (by rw [e]; rfl) (fun i i1 i2 => by rw [e] at i2 ⊢; refine ⟨?_, ?_, by omega⟩ <;> omega)
    rw [e] at this
    exact this
  · have e : (if A.hs.1 + 1 < 20 then A.hs.1 + 1 else 20) = 20 := by split <;> omega
    have := fin (2 + ((u + 1) % 20 + 19) % 20) ((u + 1) % 20) _ I1 (by omega) (by omega) (by omega) (fun c j hcj => ?_) ?_ hc (by rw [e]) (fun i i1 i2 => by rw [e] at i2 ⊢; refine ⟨?_, ?_, by omega⟩ <;> omega)
    · rw [e] at this
      exact this
    · rcases hcj with z | z
      · exact (pj_u_n z).trans (pj_u_n z)
      · exact (pj_u_j z.2).trans (pj_u_j z.1)
    · exact (pj_u_j (by decide)).trans pj_u_e
/-- a row of a kept year -/
theorem log_v {y p w : Nat} (hy : y ≤ 999) (hp : p ≤ 7) (hw : w ≤ 7) : ((nI y <<< ((6 : Int32) &&& 31)) ||| (nI p <<< ((3 : Int32) &&& 31))) ||| nI w = nI (64 * y + 8 * p + w) := by
  rw [pk_shlN ((6 : Int32) &&& 31) 6 (by decide) (by omega), pk_shlN ((3 : Int32) &&& 31) 3 (by decide) (by omega), nb_or, nb_or]
  have e1 : y * 2 ^ 6 ||| p * 2 ^ 3 = 8 * (8 * y + p) := by
    have := Nat.two_pow_add_eq_or_of_lt (i := 6) (b := p * 2 ^ 3) (by omega) y
    rw [Nat.mul_comm y, ← this]; omega
  have e2 : 8 * (8 * y + p) ||| w = 8 * (8 * y + p) + w := (Nat.two_pow_add_eq_or_of_lt (i := 3) (b := w) (by omega) (8 * y + p)).symm
  rw [e1, e2]
  exact congrArg nI (by omega)
/-- PegCoats.keepOneYear -/
theorem c143 (hh : 7 ≤ h) (hA : AV A) (hI : InvC A I) (hy : A.L.yr < 999) (q : ∀ I', cF I I' → InvC A.yr1 I' → I' 34 1 = nI (y3 A.W none A.L).2 → Q none (zc n, I', J)) : pj_D h 143 [.ref 2] (zc n, I, J) Q := by
  have hI0 := hI
  have vv := yea_LV (w := none) hA.2.2.2.1
  have h7 := hA.2.2.1
  have hk := hA.2.2.2.2.1
  obtain ⟨a1, a2, a3, a4, a5, -⟩ := hI
  refine pj_ent (g := 6) hh (t := mt_143) rfl rfl (v143_0 (pj_D_le 6) I J ?_)
  refine s2 (by decide) (w := none) (a := 35) (by decide) (fun k z => by cases z) a2 hA.1 a3 hA.2.2.2.1 hy (fun I1 hf L1 h1 h2 => kV_i ?_)
  have f : ∀ c j, (c ≤ 15 ∨ c = 33 ∨ c = 31 ∨ c = 59 ∨ (61 ≤ c)) → I1 c j = I c j := fun c j hc => hf c j (yS_f (by omega) (by omega) (by omega) (by omega) (by omega))
  have e8 : I1 35 8 = nI A.kp.1 := (hf 35 8 rfl).trans a4.2.1
  have b1 := vv.2.2.2.2.2.2
  have b2 := vv.2.2.2.2.2.1
  rw [e8, h1, h2, a3.1, log_v (by omega) (by omega) (by omega), nI_1, nI_clamp (n := A.kp.1) (by omega)]
  refine br_f (nI_ge (by omega) (by omega)) ⟨pk_in A.kp.1 999 (by omega), ?_⟩
  generalize hX : pj_u (pj_u I1 274 A.kp.1 (nI (64 * A.L.yr + 8 * (y3 A.W none A.L).2 + (y2 A.W A.L).2))) 35 8 (nI (A.kp.1 + 1)) = X
  have x : ∀ c j, c ≠ 274 → (c ≠ 35 ∨ j ≠ 8) → X c j = I1 c j := fun c j hc hc2 => by
    rw [← hX]
    rcases hc2 with z | z
    · exact (pj_u_n z).trans (pj_u_n hc)
    · exact (pj_u_j z).trans (pj_u_n hc)
  have g : ∀ c j, (c ≤ 15 ∨ c = 33 ∨ c = 31 ∨ c = 59 ∨ (61 ≤ c ∧ c ≠ 274)) → X c j = I c j := fun c j hc => (x c j (by omega) (by omega)).trans (f c j (by omega))
  refine q X (fun c j hc => g c j (by omega)) (InvC_ex hI0 rfl (Or.inl ⟨rfl, fun c j hc => g c j (by omega)⟩) (fun c j h1 h2 => g c j (by omega)) (Or.inr ?_) (Or.inr ⟨?_, ?_, fun i hi => ?_⟩) (Or.inl ⟨rfl, fun c j hc => g c j (by omega)⟩) (Or.inl ⟨rfl, fun j => g _ _ (by omega)⟩) (Or.inl ⟨rfl, g _ _ (by omega)⟩) (Or.inl ⟨rfl, g _ _ (by omega), g _ _ (by omega)⟩) (Or.inl ⟨rfl, g _ _ (by omega), fun j => g _ _ (by omega)⟩) (Or.inl ⟨rfl, fun c j hc => g c j (by omega)⟩) (fun j => g _ _ (by omega))) ((x _ _ (by decide) (by decide)).trans h1)
  · exact ⟨(x _ _ (by decide) (by omega)).trans L1.1, fun k hk => ⟨(x _ _ (by decide) (by omega)).trans (L1.2.1 k hk).1, (x _ _ (by decide) (by omega)).trans (L1.2.1 k hk).2⟩, fun k hk => ⟨(x _ _ (by decide) (by omega)).trans (L1.2.2 k hk).1, (x _ _ (by decide) (by omega)).trans (L1.2.2 k hk).2.1, (x _ _ (by decide) (by omega)).trans (L1.2.2 k hk).2.2.1, (x _ _ (by decide) (by omega)).trans (L1.2.2 k hk).2.2.2.1, (x _ _ (by decide) (by omega)).trans (L1.2.2 k hk).2.2.2.2⟩⟩
  · show A.kp.1 + 1 ≤ 999
    omega
  · rw [← hX]; exact pj_u_e
  · have hi : i < A.kp.1 + 1 := hi
    show _ = nI (64 * (upd1 A.kp.2 A.kp.1 _ i).1 + 8 * (upd1 A.kp.2 A.kp.1 _ i).2.1 + (upd1 A.kp.2 A.kp.1 _ i).2.2) ∧ (upd1 A.kp.2 A.kp.1 _ i).1 ≤ 999 ∧ (upd1 A.kp.2 A.kp.1 _ i).2.1 ≤ 7 ∧ (upd1 A.kp.2 A.kp.1 _ i).2.2 ≤ 7
    by_cases e : i = A.kp.1
    · subst e
      rw [upd1_e]
      refine ⟨?_, by show A.L.yr ≤ 999; omega, by show (y3 A.W none A.L).2 ≤ 7; omega, by show (y2 A.W A.L).2 ≤ 7; omega⟩
      rw [← hX, pj_u_n (by decide), pj_u_e]
    · rw [upd1_n e]
      refine ⟨?_, (a4.2.2 i (by omega)).2⟩
      rw [← hX, pj_u_n (by decide), pj_u_j e, f 274 i (by omega)]
      exact (a4.2.2 i (by omega)).1
theorem tS_0 {c j : Nat} (h : nM c j = false) : tS 0 c j = false := by
  unfold nM at h
  rw [Bool.or_eq_false_iff] at h
  unfold tS
  rw [h.1]
  have := aS_q h.2
  unfold aS at this
  rw [this]
  rfl
/-- PegCoatsModel.ticks of what is now -/
theorem m226 (hh : 6 ≤ h) (hA : AV A) (hI : InvM A I J) (hy : A.L.yr < 999) (q : ∀ I' J', mF I I' → InvM A.yr1 I' J' → Q (some (.int (nI (y3 A.W none A.L).2))) (zc n, I', J')) : pj_D h 226 [.ref 276, .int 0, .int (-1)] (zc n, I, J) Q := by
  obtain ⟨B, b1, b2⟩ := hI.2.1
  refine s226 hh (w := none) (v := 0) (fun k z => by cases z) (by decide) b1 b2 hA.1 hI.2.2.1 hA.2.2.2.1 hI.2.2.2.1 (fun I1 J1 f1 j1 L1 K1 => q I1 J1 (fun c j hc => f1 c j (tS_f (by omega))) ?_)
  refine InvM_K (k' := (A.kp.1 + 1, upd1 A.kp.2 A.kp.1 (A.L.yr, (y3 A.W none A.L).2, (y2 A.W A.L).2))) hA hI (pj_fr_w f1 (fun c j hc => tS_0 hc)) j1 L1 K1 (fun i hi j hj => upd1_n ?_)
  have := (hA.2.2.2.2.2.2.2.1 i hi).2.2
  omega
end PAc
