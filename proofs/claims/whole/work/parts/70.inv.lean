/-! what class and reference stand for, whole -/
abbrev Ab : Type := (Nat × (Nat → Nat)) × Wk × Ly × (Nat × (Nat → Nat × Nat × Nat)) × (Nat × (Nat → Ly × Nat)) × (Nat → Int32) × Nat × (Int32 × Int32) × (Nat × (Nat → Nat × Nat × Option Nat)) × (Nat × (Nat → Nat))
def Ab.tp (A : Ab) : Nat × (Nat → Nat) := A.1
def Ab.W (A : Ab) : Wk := A.2.1
def Ab.L (A : Ab) : Ly := A.2.2.1
def Ab.kp (A : Ab) : Nat × (Nat → Nat × Nat × Nat) := A.2.2.2.1
def Ab.hs (A : Ab) : Nat × (Nat → Ly × Nat) := A.2.2.2.2.1
def Ab.rf (A : Ab) : Nat → Int32 := A.2.2.2.2.2.1
def Ab.sd (A : Ab) : Nat := A.2.2.2.2.2.2.1
def Ab.ft (A : Ab) : Int32 × Int32 := A.2.2.2.2.2.2.2.1
def Ab.rw (A : Ab) : Nat × (Nat → Nat × Nat × Option Nat) := A.2.2.2.2.2.2.2.2.1
def Ab.pc (A : Ab) : Nat × (Nat → Nat) := A.2.2.2.2.2.2.2.2.2
/-- what holds of it -/
def AV (A : Ab) : Prop := WV A.W ∧ A.W.nc ≤ 8 ∧ A.W.nm ≤ 7 ∧ LV A.W A.L ∧ A.kp.1 ≤ A.L.yr ∧ (∀ i, i < A.kp.1 → (A.kp.2 i).1 ≤ 999 ∧ (A.kp.2 i).2.1 ≤ 7 ∧ (A.kp.2 i).2.2 ≤ 7) ∧ A.hs.1 ≤ 20 ∧ (∀ i, i < A.hs.1 → LV A.W (A.hs.2 i).1 ∧ (A.hs.2 i).2 ≤ (A.hs.2 i).1.yr ∧ (A.hs.2 i).2 ≤ A.kp.1) ∧ (∀ i j, i ≤ j → j < A.hs.1 → (A.hs.2 j).2 ≤ (A.hs.2 i).2) ∧ A.sd < 2 ^ 31 ∧ A.rw.1 ≤ 16 ∧ (∀ i, i < A.rw.1 → (A.rw.2 i).1 ≤ 30 ∧ (A.rw.2 i).2.1 < A.W.nm ∧ ∀ c, (A.rw.2 i).2.2 = some c → c < A.W.nc) ∧ A.pc.1 ≤ 61 ∧ (∀ i, i < A.pc.1 → A.pc.2 i < 256)
/-- the own words, in the class's signs -/
def owC (k : Nat) : Int32 := [nmC [3, 15, 1, 20], nmC [19, 9, 26, 5], nmC [16, 1, 25], nmC [13, 1, 14], nmC [1, 7, 5], nmC [23, 5, 1, 18, 19], nmC [15, 6], nmC [23, 1, 18, 13, 19], nmC [7, 18, 15, 23, 19], nmC [12, 5, 1, 22, 5, 19], nmC [6, 9, 18, 5], nmC [25, 5, 1, 18], nmC [12, 9, 14, 9, 14, 7], nmC [16, 21, 18, 19, 5], nmC [3, 15, 1, 20, 5, 4], nmC [9, 6], nmC [15, 18], nmC [1, 14, 4], nmC [14, 15, 20], nmC [1, 12, 12], nmC [13, 9, 14], nmC [13, 1, 24]].getD k 0
def hC (A : Ab) (I : Nat → Nat → Int32) : Prop := ∃ nx, nx < 20 ∧ I 59 2 = nI nx ∧ I 59 1 = nI A.hs.1 ∧ ∀ i, i < A.hs.1 → LC A.W (61 + 8 * ((nx + 19 - i) % 20)) (A.hs.2 i).1 I ∧ I (61 + 8 * ((nx + 19 - i) % 20)) 8 = nI (A.hs.2 i).2
def hM (A : Ab) (I : Nat → Nat → Int32) : Prop := ∃ u, u < 20 ∧ I 276 52 = nI u ∧ I 276 53 = nI A.hs.1 ∧ ∀ i, i < A.hs.1 → LM A.W (2 + (u + (A.hs.1 - 1 - i)) % 20) (A.hs.2 i).1 I ∧ KM (2 + (u + (A.hs.1 - 1 - i)) % 20) (A.hs.2 i).2 A.kp.2 I
def InvC (A : Ab) (I : Nat → Nat → Int32) : Prop := TC A.tp.1 A.tp.2 I ∧ CW A.W 5 I ∧ LC A.W 35 A.L I ∧ KC A.kp.1 A.kp.2 I ∧ hC A I ∧ (∀ k, k < 6 → I 275 k = A.rf k) ∧ I 2 15 = nI A.sd ∧ (I 31 2 = A.ft.1 ∧ I 31 3 = A.ft.2) ∧ (I 251 4 = nI A.rw.1 ∧ ∀ i, i < A.rw.1 → I 260 (3 * i) = nI (A.rw.2 i).1 ∧ I 260 (3 * i + 1) = nI (A.rw.2 i).2.1 ∧ I 260 (3 * i + 2) = nI ((A.rw.2 i).2.2.getD 255)) ∧ (I 272 2 = nI A.pc.1 ∧ ∀ i, i < A.pc.1 → I 273 i = nI (A.pc.2 i)) ∧ ∀ k, k < 22 → I 33 k = owC k
def InvM (A : Ab) (I : Nat → Nat → Int32) (J : Nat → Nat → Int64) : Prop := TM A.tp.1 A.tp.2 I ∧ (∃ B, I 276 13 = nI B ∧ MW A.W B I J) ∧ LM A.W 0 A.L I ∧ KM 0 A.kp.1 A.kp.2 I ∧ hM A I ∧ (∀ k, k < 6 → I 298 k = A.rf k) ∧ J 276 54 = lN A.sd ∧ (I 276 10 = A.ft.1 ∧ I 276 11 = A.ft.2) ∧ (I 276 60 = nI A.rw.1 ∧ ∀ i, i < A.rw.1 → I 314 i = nI (A.rw.2 i).1 ∧ I 315 i = nI (A.rw.2 i).2.1 ∧ I 316 i = wo (A.rw.2 i).2.2) ∧ I 276 66 = nI A.pc.1 ∧ ∀ i, i < A.pc.1 → I 318 i = nI (A.pc.2 i)
/-- the cells of the class that tell something behind a call -/
def kC : Nat → Nat → Bool := fun c j => Nat.ble c 15 || c == 33 || (Nat.ble 35 c && Nat.ble c 42) || c == 59 || (Nat.ble 61 c && Nat.ble c 220) || c == 260 || (Nat.ble 272 c && Nat.ble c 275) || (c == 31 && (j == 2 || j == 3)) || (c == 251 && j == 4)
/-- the other cells of the class -/
def qC : Nat → Nat → Bool := fun c j => Nat.ble c 275 && !kC c j
theorem qC_f {c j : Nat} (h : qC c j = false) : 276 ≤ c ∨ c ≤ 15 ∨ c = 33 ∨ (35 ≤ c ∧ c ≤ 42) ∨ c = 59 ∨ (61 ≤ c ∧ c ≤ 220) ∨ c = 260 ∨ (272 ≤ c ∧ c ≤ 275) ∨ (c = 31 ∧ (j = 2 ∨ j = 3)) ∨ (c = 251 ∧ j = 4) := by
  unfold qC at h
  rw [Bool.and_eq_false_iff] at h
  rcases h with h | h
  · left
    rw [← Bool.not_eq_true, Nat.ble_eq] at h
    omega
  · right
    have h : kC c j = true := by cases e : kC c j <;> simp_all
    unfold kC at h
    simp only [Bool.or_eq_true, Bool.and_eq_true, Nat.ble_eq, beq_iff_eq] at h
    omega
theorem kC_q {c j : Nat} (h : kC c j = true) : qC c j = false := by
  unfold qC
  rw [h]
  simp
theorem kC_r {c j : Nat} (h : c ≤ 15 ∨ c = 33 ∨ (35 ≤ c ∧ c ≤ 42) ∨ c = 59 ∨ (61 ≤ c ∧ c ≤ 220) ∨ c = 260 ∨ (272 ≤ c ∧ c ≤ 275)) : kC c j = true := by
  unfold kC
  simp only [Bool.or_eq_true, Bool.and_eq_true, Nat.ble_eq, beq_iff_eq]
  omega
theorem LC_fr {W : Wk} {a : Nat} {L : Ly} {I I' : Nat → Nat → Int32} (f : ∀ c j, a ≤ c → c ≤ a + 7 → I' c j = I c j) (hL : LC W a L I) : LC W a L I' :=
  ⟨(f _ _ (by omega) (by omega)).trans hL.1, fun k hk => ⟨(f _ _ (by omega) (by omega)).trans (hL.2.1 k hk).1, (f _ _ (by omega) (by omega)).trans (hL.2.1 k hk).2⟩, fun k hk => ⟨(f _ _ (by omega) (by omega)).trans (hL.2.2 k hk).1, (f _ _ (by omega) (by omega)).trans (hL.2.2 k hk).2.1, (f _ _ (by omega) (by omega)).trans (hL.2.2 k hk).2.2.1, (f _ _ (by omega) (by omega)).trans (hL.2.2 k hk).2.2.2.1, (f _ _ (by omega) (by omega)).trans (hL.2.2 k hk).2.2.2.2⟩⟩
theorem hC_fr {A : Ab} {I I' : Nat → Nat → Int32} (f : ∀ c j, c = 59 ∨ (61 ≤ c ∧ c ≤ 220) → I' c j = I c j) (h : hC A I) : hC A I' := by
  obtain ⟨nx, h1, h2, h3, h4⟩ := h
  refine ⟨nx, h1, (f _ _ (by omega)).trans h2, (f _ _ (by omega)).trans h3, fun i hi => ?_⟩
  have := Nat.mod_lt (nx + 19 - i) (show 0 < 20 by decide)
  exact ⟨LC_fr (fun c j _ _ => f c j (by omega)) (h4 i hi).1, (f _ _ (by omega)).trans (h4 i hi).2⟩
theorem InvC_k {A : Ab} {I I' : Nat → Nat → Int32} (hf : ∀ c j, kC c j = true → I' c j = I c j) (h : InvC A I) : InvC A I' := by
  obtain ⟨a1, a2, a3, a4, a5, a6, a7, a8, a9, a10, a11⟩ := h
  have f : ∀ c j, (c ≤ 15 ∨ c = 33 ∨ (35 ≤ c ∧ c ≤ 42) ∨ c = 59 ∨ (61 ≤ c ∧ c ≤ 220) ∨ c = 260 ∨ (272 ≤ c ∧ c ≤ 275)) → I' c j = I c j := fun c j hc => hf c j (kC_r hc)
  refine ⟨⟨a1.1, (f _ _ (by omega)).trans a1.2.1, fun k hk => ⟨(f _ _ (by omega)).trans (a1.2.2 k hk).1, (a1.2.2 k hk).2⟩⟩, CW_fr (fun c j _ _ => f c j (by omega)) a2, LC_fr (fun c j _ _ => f c j (by omega)) a3, ⟨a4.1, (f _ _ (by omega)).trans a4.2.1, fun i hi => ⟨(f _ _ (by omega)).trans (a4.2.2 i hi).1, (a4.2.2 i hi).2⟩⟩, hC_fr (fun c j hc => f c j (by omega)) a5, fun k hk => (f _ _ (by omega)).trans (a6 k hk), (f _ _ (by omega)).trans a7, ⟨(hf 31 2 rfl).trans a8.1, (hf 31 3 rfl).trans a8.2⟩, ⟨(hf 251 4 rfl).trans a9.1, fun i hi => ⟨(f _ _ (by omega)).trans (a9.2 i hi).1, (f _ _ (by omega)).trans (a9.2 i hi).2.1, (f _ _ (by omega)).trans (a9.2 i hi).2.2⟩⟩, ⟨(f _ _ (by omega)).trans a10.1, fun i hi => (f _ _ (by omega)).trans (a10.2 i hi)⟩, fun k hk => (f _ _ (by omega)).trans (a11 k hk)⟩
theorem InvC_q {A : Ab} {I I' : Nat → Nat → Int32} (hf : pj_fr qC I I') (h : InvC A I) : InvC A I' := InvC_k (fun c j hc => hf c j (kC_q hc)) h
theorem kC_l {c j : Nat} (h : kC c j = true) : c < 276 := by
  unfold kC at h
  simp only [Bool.or_eq_true, Bool.and_eq_true, Nat.ble_eq, beq_iff_eq] at h
  omega
theorem InvC_m {A : Ab} {I I' : Nat → Nat → Int32} (hf : ∀ c j, c < 276 → I' c j = I c j) (h : InvC A I) : InvC A I' := InvC_k (fun c j hc => hf c j (kC_l hc)) h
/-- layers of the reference but one -/
theorem LM_x {W : Wk} {v w : Nat} {L : Ly} {I I' : Nat → Nat → Int32} (h8 : W.nc ≤ 8) (h7 : W.nm ≤ 7) (hvw : w ≠ v) (h : ∀ c j, 299 ≤ c → c ≤ 308 → mS v c j = false → I' c j = I c j) (hL : LM W w L I) : LM W w L I' := by
  obtain ⟨g1, ⟨S, g2, g3, g4⟩, ⟨G, g5, g6, g7⟩, g8, g9⟩ := hL
  have e0 : (w == v) = false := beq_eq_false_iff_ne.mpr hvw
  have t1 : ∀ c, c = 299 ∨ c = 300 ∨ c = 306 → mS v c w = false := fun c hc => by
    rcases hc with rfl | rfl | rfl <;> exact e0
  have t8 : ∀ k, k < 8 → mS v 301 (8 * w + k) = false := fun k hk => rg_f (by omega)
  have t7 : ∀ c k, c = 302 ∨ c = 303 ∨ c = 304 ∨ c = 305 → k < 7 → mS v c (7 * w + k) = false := fun c k hc hk => by
    rcases hc with rfl | rfl | rfl | rfl <;> exact rg_f (by omega)
  exact ⟨(h _ _ (by decide) (by decide) (t1 _ (by decide))).trans g1, ⟨S, (h _ _ (by decide) (by decide) (t1 _ (by decide))).trans g2, g3, g4⟩, ⟨G, (h _ _ (by decide) (by decide) (t1 _ (by decide))).trans g5, g6, g7⟩, fun k hk => (h _ _ (by decide) (by decide) (t8 k (by omega))).trans (g8 k hk), fun k hk => ⟨(h _ _ (by decide) (by decide) (t7 302 k (by decide) (by omega))).trans (g9 k hk).1, (h _ _ (by decide) (by decide) (t7 303 k (by decide) (by omega))).trans (g9 k hk).2.1, (h _ _ (by decide) (by decide) (t7 304 k (by decide) (by omega))).trans (g9 k hk).2.2.1, (h _ _ (by decide) (by decide) (t7 305 k (by decide) (by omega))).trans (g9 k hk).2.2.2⟩⟩
theorem KM_x {v w m : Nat} {f : Nat → Nat × Nat × Nat} {I I' : Nat → Nat → Int32} (hvw : w ≠ v) (h : ∀ c j, 299 ≤ c → c ≤ 308 → mS v c j = false → I' c j = I c j) (hK : KM w m f I) : KM w m f I' := by
  have t := tld_le m
  have t8 : ∀ j, j < 120 → I' 308 (120 * w + j) = I 308 (120 * w + j) := fun j hj => h _ _ (by decide) (by decide) (rg_f (by omega))
  refine ⟨(h 307 w (by decide) (by decide) (show mS v 307 w = false from beq_eq_false_iff_ne.mpr hvw)).trans hK.1, fun i hi => ⟨?_, ?_, ?_⟩⟩
  · exact (t8 (3 * i) (by omega)).trans (hK.2 i hi).1
  · exact (t8 (3 * i + 1) (by omega)).trans (hK.2 i hi).2.1
  · exact (t8 (3 * i + 2) (by omega)).trans (hK.2 i hi).2.2
theorem hM_x {A : Ab} {v : Nat} {I I' : Nat → Nat → Int32} (h8 : A.W.nc ≤ 8) (h7 : A.W.nm ≤ 7) (hv : v < 2) (e1 : I' 276 52 = I 276 52) (e2 : I' 276 53 = I 276 53) (h : ∀ c j, 299 ≤ c → c ≤ 308 → mS v c j = false → I' c j = I c j) (hh : hM A I) : hM A I' := by
  obtain ⟨u, h1, h2, h3, h4⟩ := hh
  exact ⟨u, h1, e1.trans h2, e2.trans h3, fun i hi => ⟨LM_x h8 h7 (by omega) h (h4 i hi).1, KM_x (by omega) h (h4 i hi).2⟩⟩
/-- what the reference tries with -/
def qM : Nat → Nat → Bool := fun c j => mS 1 c j || c == 310 || c == 311 || c == 312 || c == 313 || c == 317
theorem qM_f {c j : Nat} (h : (c < 299 ∨ 313 < c) ∧ c ≠ 317) : qM c j = false := by
  unfold qM
  rw [mS_f (by omega), beq_eq_false_iff_ne.mpr (by omega), beq_eq_false_iff_ne.mpr (by omega), beq_eq_false_iff_ne.mpr (by omega), beq_eq_false_iff_ne.mpr (by omega), beq_eq_false_iff_ne.mpr (by omega)]
  rfl
theorem qM_8 {c j : Nat} (h1 : 299 ≤ c) (h2 : c ≤ 308) (h : mS 1 c j = false) : qM c j = false := by
  unfold qM
  rw [h, beq_eq_false_iff_ne.mpr (by omega), beq_eq_false_iff_ne.mpr (by omega), beq_eq_false_iff_ne.mpr (by omega), beq_eq_false_iff_ne.mpr (by omega), beq_eq_false_iff_ne.mpr (by omega)]
  rfl
theorem InvM_q {A : Ab} {I I' : Nat → Nat → Int32} {J J' : Nat → Nat → Int64} (hA : AV A) (hf : pj_fr qM I I') (hj : pj_fr sS J J') (h : InvM A I J) : InvM A I' J' := by
  obtain ⟨a1, ⟨B, b1, b2⟩, a3, a4, a5, a6, a7, a8, a9, a10, a11⟩ := h
  have f : ∀ c j, ((c < 299 ∨ 313 < c) ∧ c ≠ 317) → I' c j = I c j := fun c j hc => hf c j (qM_f hc)
  have g : ∀ c j, 299 ≤ c → c ≤ 308 → mS 1 c j = false → I' c j = I c j := fun c j h1 h2 h3 => hf c j (qM_8 h1 h2 h3)
  have gj : ∀ c j, c ≠ 309 → J' c j = J c j := fun c j hc => hj c j (beq_eq_false_iff_ne.mpr hc)
  exact ⟨⟨a1.1, (f _ _ (by omega)).trans a1.2.1, fun k hk => ⟨(f _ _ (by omega)).trans (a1.2.2 k hk).1, (a1.2.2 k hk).2⟩⟩, ⟨B, (f _ _ (by omega)).trans b1, MW_fr (fun c j _ _ => f c j (by omega)) (fun c j _ _ => gj c j (by omega)) b2⟩, LM_x hA.2.1 hA.2.2.1 (by decide) g a3, KM_x (by decide) g a4, hM_x hA.2.1 hA.2.2.1 (by decide) (f _ _ (by omega)) (f _ _ (by omega)) g a5, fun k hk => (f _ _ (by omega)).trans (a6 k hk), (gj _ _ (by decide)).trans a7, ⟨(f _ _ (by omega)).trans a8.1, (f _ _ (by omega)).trans a8.2⟩, ⟨(f _ _ (by omega)).trans a9.1, fun i hi => ⟨(f _ _ (by omega)).trans (a9.2 i hi).1, (f _ _ (by omega)).trans (a9.2 i hi).2.1, (f _ _ (by omega)).trans (a9.2 i hi).2.2⟩⟩, (f _ _ (by omega)).trans a10, fun i hi => (f _ _ (by omega)).trans (a11 i hi)⟩
theorem InvM_c {A : Ab} {I I' : Nat → Nat → Int32} {J : Nat → Nat → Int64} (hA : AV A) (hf : ∀ c j, 276 ≤ c → I' c j = I c j) (h : InvM A I J) : InvM A I' J := by
  obtain ⟨a1, ⟨B, b1, b2⟩, a3, a4, a5, a6, a7, a8, a9, a10, a11⟩ := h
  have f : ∀ c j, ((c < 299 ∨ 313 < c) ∧ c ≠ 317) ∧ 276 ≤ c → I' c j = I c j := fun c j hc => hf c j hc.2
  have g : ∀ c j, 299 ≤ c → c ≤ 308 → mS 1 c j = false → I' c j = I c j := fun c j h1 h2 h3 => hf c j (by omega)
  exact ⟨⟨a1.1, (f _ _ (by omega)).trans a1.2.1, fun k hk => ⟨(f _ _ (by omega)).trans (a1.2.2 k hk).1, (a1.2.2 k hk).2⟩⟩, ⟨B, (f _ _ (by omega)).trans b1, MW_fr (fun c j _ _ => f c j (by omega)) (fun c j _ _ => rfl) b2⟩, LM_x hA.2.1 hA.2.2.1 (by decide) g a3, KM_x (by decide) g a4, hM_x hA.2.1 hA.2.2.1 (by decide) (f _ _ (by omega)) (f _ _ (by omega)) g a5, fun k hk => (f _ _ (by omega)).trans (a6 k hk), a7, ⟨(f _ _ (by omega)).trans a8.1, (f _ _ (by omega)).trans a8.2⟩, ⟨(f _ _ (by omega)).trans a9.1, fun i hi => ⟨(f _ _ (by omega)).trans (a9.2 i hi).1, (f _ _ (by omega)).trans (a9.2 i hi).2.1, (f _ _ (by omega)).trans (a9.2 i hi).2.2⟩⟩, (f _ _ (by omega)).trans a10, fun i hi => (f _ _ (by omega)).trans (a11 i hi)⟩
/-- a number of one of the first so many -/
def ix (m : Nat) (p : Int32) : Option Nat := if 0 ≤ p ∧ p.toNatClampNeg < m then some p.toNatClampNeg else none
theorem ix_s {m k : Nat} (h : k < m) (hm : m < 2 ^ 31) : ix m (nI k) = some k := by
  unfold ix
  rw [nI_clamp (by omega), if_pos ⟨nI_pos' (by omega), h⟩]
theorem ix_n {m : Nat} {p : Int32} (hm : m < 2 ^ 31) (h : ∀ k, k < m → p ≠ nI k) : ix m p = none := by
  unfold ix
  refine if_neg (fun z => ?_)
  obtain ⟨j, hj, rfl⟩ := nI_of (x := p) (fun c => by exact absurd (Int32.lt_of_le_of_lt z.1 c) (by decide))
  rw [nI_clamp hj] at z
  exact h j z.2 rfl
