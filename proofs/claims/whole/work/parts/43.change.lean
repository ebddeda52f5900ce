/-! two men change their coats -/
def Ly.chg (L : Ly) (i j : Nat) : Ly := (L.dress i (L.wor j)).dress j (L.wor i)
theorem dress_99 {W : Wk} {L : Ly} {m : Nat} {o : Option Nat} (h : ∀ k, k < W.nc → L.lin k ≤ 99) : ∀ k, k < W.nc → (L.dress m o).lin k ≤ 99 := by
  intro k hk
  have := h k hk
  rw [dress_lin]
  by_cases e : o = some k
  · rw [if_pos e]
    by_cases e2 : L.lin k < 99
    · rw [if_pos e2]; omega
    · rw [if_neg e2]; omega
  · rw [if_neg e]; omega
theorem dress_c {W : Wk} {L : Ly} {m : Nat} {o : Option Nat} (h : ∀ k c, k < W.nm → L.wor k = some c → c < W.nc) (ho : ∀ c, o = some c → c < W.nc) : ∀ k c, k < W.nm → (L.dress m o).wor k = some c → c < W.nc := by
  intro k c hk e
  rw [dress_wor] at e
  by_cases q : k = m
  · rw [if_pos q] at e; exact ho c e
  · rw [if_neg q] at e; exact h k c hk e
section PCh
variable {n h : Nat} {Q : pj_K} {I : Nat → Nat → Int32} {J : Nat → Nat → Int64} {W : Wk} {L : Ly} {B : Nat}
theorem in5 {a : Nat} (ha : a ∈ [35, 240]) : a ∈ [35, 43, 51, 240, 252] := by
  simp only [List.mem_cons, List.not_mem_nil, or_false] at ha ⊢
  omega
/-- State.change -/
theorem s79 (hh : 2 ≤ h) {a i j : Nat} (ha : a ∈ [35, 240]) (h8 : W.nc ≤ 8) (h7 : W.nm ≤ 7) (hL : LC W a L I) (hlin : ∀ k, k < W.nc → L.lin k ≤ 99) (hwr : ∀ k c, k < W.nm → L.wor k = some c → c < W.nc) (hi : i < W.nm) (hj : j < W.nm) (q : ∀ I', LC W a (L.chg i j) I' → pj_fr (fun c _ => c == a + 5 || c == a + 1) I I' → Q none (zc n, I', J)) : pj_D h 79 [.ref a, .int (nI i), .int (nI j)] (zc n, I, J) Q := by
  refine pj_ent (g := 1) hh (t := mt_79) rfl rfl (g79_0 (pj_D_le 1) ha I J _ _ ⟨pk_in i 7 (by omega), pk_in j 7 (by omega), ?_⟩)
  rw [nI_clamp (n := i) (by omega), nI_clamp (n := j) (by omega), (hL.2.2 i hi).2.2.1, (hL.2.2 j hj).2.2.1]
  refine s78 (Nat.le_refl 1) (in5 ha) h8 h7 hL hlin hi (fun c e => hwr j c hj e) (fun I1 k1 f1 => kV_i ?_)
  exact s78 (Nat.le_refl 1) (in5 ha) h8 h7 k1 (dress_99 hlin) hj (fun c e => hwr i c hi e) (fun I2 k2 f2 => kV_i (q I2 k2 (pj_fr_tr f1 f2)))
/-- PegCoatsModel.changes -/
theorem s241 (hh : 2 ≤ h) {v i j : Nat} (hv : v < 22) (h8 : W.nc ≤ 8) (h7 : W.nm ≤ 7) (hL : LM W v L I) (hV : LV W L) (hi : i < W.nm) (hj : j < W.nm) (hij : i ≠ j) (q : ∀ I', LM W v (L.chg i j) I' → pj_fr (nS v) I I' → Q none (zc n, I', J)) : pj_D h 241 [.ref 276, .int (nI v), .int (nI i), .int (nI j)] (zc n, I, J) Q := by
  have hwr : ∀ k c, k < W.nm → L.wor k = some c → c < W.nc := fun k c hk e => (hV.2.2.2.1 k c hk e).1
  refine pj_ent (g := 1) hh (t := mt_241) rfl rfl (v241_0 (pj_D_le 1) I J _ _ _ ?_)
  rw [li_7, li_7, nI_clamp (n := 7 * v + i) (by omega), nI_clamp (n := 7 * v + j) (by omega), (hL.2.2.2.2 i hi).2.2.1, (hL.2.2.2.2 j hj).2.2.1]
  refine ⟨pk_in (7 * v + i) 154 (by omega), pk_in (7 * v + j) 154 (by omega), ?_⟩
  have ne : ∀ c, L.wor j = some c → L.wor i ≠ some c := fun c e z => hij (hV.2.2.2.2 i j c hi hj z e)
  refine s230 (Nat.le_refl 1) hv h8 h7 hL hV.2.1 hwr hi (fun c e => hwr j c hj e) ne (fun I1 k1 f1 => kV_i ?_)
  refine s230 (Nat.le_refl 1) hv h8 h7 k1 (dress_99 hV.2.1) (dress_c hwr (fun c e => hwr j c hj e)) hj (fun c e => hwr i c hi e) (fun c e z => ?_) (fun I2 k2 f2 => kV_i (q I2 k2 (pj_fr_tr f1 f2)))
  rw [dress_wor, if_neg (fun z => hij z.symm)] at z
  exact ne c z e
end PCh
