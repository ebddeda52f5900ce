/-! copies of the reference's layers -/
theorem li_8 (v k : Nat) : (8 : Int32) * nI v + nI k = nI (8 * v + k) := by
  show nI 8 * nI v + nI k = _
  rw [pk_mul, nI_add]
theorem li_7 (v k : Nat) : (7 : Int32) * nI v + nI k = nI (7 * v + k) := by
  show nI 7 * nI v + nI k = _
  rw [pk_mul, nI_add]
theorem li_120 (v k : Nat) : (120 : Int32) * nI v + nI k = nI (120 * v + k) := by
  show nI 120 * nI v + nI k = _
  rw [pk_mul, nI_add]
theorem li_3 (v : Nat) : (3 : Int32) * nI v = nI (3 * v) := by
  show nI 3 * nI v = _
  rw [pk_mul]
/-- what a copy into a layer of the reference may change -/
def mS (v : Nat) : Nat → Nat → Bool := fun c j => match c with
  | 299 => j == v
  | 300 => j == v
  | 306 => j == v
  | 307 => j == v
  | 301 => Nat.ble (8 * v) j && Nat.blt j (8 * v + 8)
  | 302 => Nat.ble (7 * v) j && Nat.blt j (7 * v + 7)
  | 303 => Nat.ble (7 * v) j && Nat.blt j (7 * v + 7)
  | 304 => Nat.ble (7 * v) j && Nat.blt j (7 * v + 7)
  | 305 => Nat.ble (7 * v) j && Nat.blt j (7 * v + 7)
  | 308 => Nat.ble (120 * v) j && Nat.blt j (120 * v + 120)
  | _ => false
theorem rg_t {a b j : Nat} (h1 : a ≤ j) (h2 : j < b) : (Nat.ble a j && Nat.blt j b) = true := by
  rw [Nat.ble_eq_true_of_le h1, Bool.true_and, Nat.blt_eq]
  exact h2
def mcp (v w m : Nat) (I I' : Nat → Nat → Int32) : Prop := I' 299 v = I 299 w ∧ I' 300 v = I 300 w ∧ I' 306 v = I 306 w ∧ I' 307 v = I 307 w ∧ (∀ k, k < 8 → I' 301 (8 * v + k) = I 301 (8 * w + k)) ∧ (∀ k, k < 7 → I' 302 (7 * v + k) = I 302 (7 * w + k)) ∧ (∀ k, k < 7 → I' 303 (7 * v + k) = I 303 (7 * w + k)) ∧ (∀ k, k < 7 → I' 304 (7 * v + k) = I 304 (7 * w + k)) ∧ (∀ k, k < 7 → I' 305 (7 * v + k) = I 305 (7 * w + k)) ∧ (∀ k, k < 3 * m → I' 308 (120 * v + k) = I 308 (120 * w + k)) ∧ pj_fr (mS v) I I'
section PMc
variable {n h : Nat} {Q : pj_K} {I : Nat → Nat → Int32} {J : Nat → Nat → Int64}
/-- the reference's layer w stays while v is written -/
theorem mS_o {v w c j : Nat} {I1 : Nat → Nat → Int32} (hf : pj_fr (mS v) I I1) (h : mS v c j = false) : I1 c j = I c j := hf c j h
set_option maxRecDepth 8000 in
/-- PegCoatsModel.copies -/
theorem s204 (hh : 1 ≤ h) {v w m : Nat} (hv : v < 22) (hw : w < 22) (hvw : v ≠ w) (hm : I 307 w = nI m) (hm2 : m ≤ 40) (q : ∀ I', mcp v w m I I' → Q none (zc n, I', J)) : pj_D h 204 [.ref 276, .int (nI v), .int (nI w)] (zc n, I, J) Q := by
  have hC := pj_D_le 0
  refine pj_ent (g := 0) hh (t := mt_204) rfl rfl (v204_0 hC I J _ _ ⟨pk_in w 22 hw, pk_in v 22 hv, pk_in w 22 hw, pk_in v 22 hv, pk_in w 22 hw, pk_in v 22 hv, ?_⟩)
  rw [nI_clamp (by omega), nI_clamp (by omega)]
  have nb : ∀ {a b j : Nat}, (j < a ∨ b ≤ j) → (Nat.ble a j && Nat.blt j b) = false := fun {a b j} h => by
    rcases h with h | h
    · rw [show Nat.ble a j = false by rw [← Bool.not_eq_true, Nat.ble_eq]; omega, Bool.false_and]
    · rw [show Nat.blt j b = false by rw [← Bool.not_eq_true, Nat.blt_eq]; omega, Bool.and_false]
  have nw : (w == v) = false := by
    rw [beq_eq_false_iff_ne]
    exact fun e => hvw e.symm
  have vv : (v == v) = true := beq_self_eq_true v
  have L3 : ∀ r k (I1 : Nat → Nat → Int32), r + k = 3 * m → I1 299 v = I 299 w → I1 300 v = I 300 w → I1 306 v = I 306 w → I1 307 v = I 307 w → (∀ k, k < 8 → I1 301 (8 * v + k) = I 301 (8 * w + k)) → (∀ k, k < 7 → I1 302 (7 * v + k) = I 302 (7 * w + k)) → (∀ k, k < 7 → I1 303 (7 * v + k) = I 303 (7 * w + k)) → (∀ k, k < 7 → I1 304 (7 * v + k) = I 304 (7 * w + k)) → (∀ k, k < 7 → I1 305 (7 * v + k) = I 305 (7 * w + k)) →
      (∀ j, j < k → I1 308 (120 * v + j) = I 308 (120 * w + j)) → pj_fr (mS v) I I1 → pj_R (pj_D 0) ta mc_204 false Q 188 [some (.ref 276), some (.int (nI v)), some (.int (nI w)), some (.int (nI k))] [] (zc n) I1 J 0 0 := by
    intro r
    induction r with
    | zero =>
      intro k I1 hk e1 e2 e3 e4 e5 e6 e7 e8 e9 ea eb
      have e307 : I1 307 w = nI m := (eb 307 w nw).trans hm
      refine v204_188 hC I1 J _ _ _ ?_
      rw [nI_clamp (by omega), e307, li_3]
      refine ⟨pk_in w 22 hw, pk_le (3 * m) k (fun _ => q I1 ⟨e1, e2, e3, e4, e5, e6, e7, e8, e9, fun j hj => ea j (by omega), eb⟩) (fun c => by omega)⟩
    | succ r ih =>
      intro k I1 hk e1 e2 e3 e4 e5 e6 e7 e8 e9 ea eb
      have e307 : I1 307 w = nI m := (eb 307 w nw).trans hm
      refine v204_188 hC I1 J _ _ _ ?_
      rw [nI_clamp (by omega), e307, li_3, li_120, li_120, nI_clamp (by omega), nI_clamp (by omega), nI_1]
      refine ⟨pk_in w 22 hw, pk_le (3 * m) k (fun c => by omega) (fun c => ⟨pk_in (120 * w + k) 2640 (by omega), pk_in (120 * v + k) 2640 (by omega), ?_⟩)⟩
      have o : ∀ c j, c ≠ 308 → pj_u I1 308 (120 * v + k) (I1 308 (120 * w + k)) c j = I1 c j := fun c j hc => pj_u_n hc
      refine ih (k + 1) _ (by omega) ((o _ _ (by decide)).trans e1) ((o _ _ (by decide)).trans e2) ((o _ _ (by decide)).trans e3) ((o _ _ (by decide)).trans e4) (fun k hk => (o _ _ (by decide)).trans (e5 k hk)) (fun k hk => (o _ _ (by decide)).trans (e6 k hk)) (fun k hk => (o _ _ (by decide)).trans (e7 k hk)) (fun k hk => (o _ _ (by decide)).trans (e8 k hk)) (fun k hk => (o _ _ (by decide)).trans (e9 k hk)) (fun j hj => ?_) (pj_fr_u eb (rg_t (by omega) (by omega)))
      by_cases e : j = k
      · subst e
        rw [pj_u_e]
        exact eb 308 _ (nb (by omega))
      · rw [pj_u_j (by omega)]
        exact ea j (by omega)
  have L2 : ∀ r k (I1 : Nat → Nat → Int32), r + k = 7 → I1 299 v = I 299 w → I1 300 v = I 300 w → I1 306 v = I 306 w → (∀ k, k < 8 → I1 301 (8 * v + k) = I 301 (8 * w + k)) → (∀ j, j < k → I1 302 (7 * v + j) = I 302 (7 * w + j)) → (∀ j, j < k → I1 303 (7 * v + j) = I 303 (7 * w + j)) → (∀ j, j < k → I1 304 (7 * v + j) = I 304 (7 * w + j)) → (∀ j, j < k → I1 305 (7 * v + j) = I 305 (7 * w + j)) →
      pj_fr (mS v) I I1 → pj_R (pj_D 0) ta mc_204 false Q 74 [some (.ref 276), some (.int (nI v)), some (.int (nI w)), some (.int (nI k))] [] (zc n) I1 J 0 0 := by
    intro r
    induction r with
    | zero =>
      intro k I1 hk e1 e2 e3 e5 e6 e7 e8 e9 eb
      obtain rfl : k = 7 := by omega
      refine v204_74 hC I1 J _ _ _ ?_
      rw [nI_clamp (by omega), nI_clamp (by omega)]
      refine pk_le 7 7 (fun _ => ⟨pk_in w 22 hw, pk_in v 22 hv, ?_⟩) (fun c => by omega)
      have o : ∀ c j, c ≠ 307 → pj_u I1 307 v (I1 307 w) c j = I1 c j := fun c j hc => pj_u_n hc
      exact L3 (3 * m) 0 _ (by omega) ((o _ _ (by decide)).trans e1) ((o _ _ (by decide)).trans e2) ((o _ _ (by decide)).trans e3) (by rw [pj_u_e]; exact eb 307 w nw) (fun k hk => (o _ _ (by decide)).trans (e5 k hk)) (fun k hk => (o _ _ (by decide)).trans (e6 k hk)) (fun k hk => (o _ _ (by decide)).trans (e7 k hk)) (fun k hk => (o _ _ (by decide)).trans (e8 k hk)) (fun k hk => (o _ _ (by decide)).trans (e9 k hk)) (fun j hj => by omega) (pj_fr_u eb vv)
    | succ r ih =>
      intro k I1 hk e1 e2 e3 e5 e6 e7 e8 e9 eb
      refine v204_74 hC I1 J _ _ _ ?_
      rw [li_7, li_7, nI_clamp (n := 7 * w + k) (by omega), nI_clamp (n := 7 * v + k) (by omega), nI_1]
      have i1 := pk_in (x := nI (7 * w + k)) (7 * w + k) 154 (by omega)
      have i2 := pk_in (x := nI (7 * v + k)) (7 * v + k) 154 (by omega)
      refine pk_le 7 k (fun c => by omega) (fun c => ⟨i1, i2, i1, i2, i1, i2, i1, i2, ?_⟩)
      have o : ∀ c j, c ≠ 302 → c ≠ 303 → c ≠ 304 → c ≠ 305 → pj_u (pj_u (pj_u (pj_u I1 302 (7 * v + k) (I1 302 (7 * w + k))) 303 (7 * v + k) (I1 303 (7 * w + k))) 304 (7 * v + k) (I1 304 (7 * w + k))) 305 (7 * v + k) (I1 305 (7 * w + k)) c j = I1 c j := fun c j h2 h3 h4 h5 => by rw [pj_u_n h5, pj_u_n h4, pj_u_n h3, pj_u_n h2]
      have rt : (Nat.ble (7 * v) (7 * v + k) && Nat.blt (7 * v + k) (7 * v + 7)) = true := rg_t (by omega) (by omega)
      refine ih (k + 1) _ (by omega) ((o _ _ (by decide) (by decide) (by decide) (by decide)).trans e1) ((o _ _ (by decide) (by decide) (by decide) (by decide)).trans e2) ((o _ _ (by decide) (by decide) (by decide) (by decide)).trans e3) (fun k hk => (o _ _ (by decide) (by decide) (by decide) (by decide)).trans (e5 k hk)) (fun j hj => ?_) (fun j hj => ?_) (fun j hj => ?_) (fun j hj => ?_) (pj_fr_u (pj_fr_u (pj_fr_u (pj_fr_u eb rt) rt) rt) rt)
      · rw [pj_u_n (by decide), pj_u_n (by decide), pj_u_n (by decide)]
        by_cases e : j = k
        · subst e
          rw [pj_u_e]
          exact eb 302 _ (nb (by omega))
        · rw [pj_u_j (by omega)]
          exact e6 j (by omega)
      · rw [pj_u_n (by decide), pj_u_n (by decide)]
        by_cases e : j = k
        · subst e
          rw [pj_u_e]
          exact eb 303 _ (nb (by omega))
        · rw [pj_u_j (by omega), pj_u_n (by decide)]
          exact e7 j (by omega)
      · rw [pj_u_n (by decide)]
        by_cases e : j = k
        · subst e
          rw [pj_u_e]
          exact eb 304 _ (nb (by omega))
        · rw [pj_u_j (by omega), pj_u_n (by decide), pj_u_n (by decide)]
          exact e8 j (by omega)
      · by_cases e : j = k
        · subst e
          rw [pj_u_e]
          exact eb 305 _ (nb (by omega))
        · rw [pj_u_j (by omega), pj_u_n (by decide), pj_u_n (by decide), pj_u_n (by decide)]
          exact e9 j (by omega)
  have L1 : ∀ r k (I1 : Nat → Nat → Int32), r + k = 8 → I1 299 v = I 299 w → I1 300 v = I 300 w → I1 306 v = I 306 w → (∀ j, j < k → I1 301 (8 * v + j) = I 301 (8 * w + j)) → pj_fr (mS v) I I1 → pj_R (pj_D 0) ta mc_204 false Q 38 [some (.ref 276), some (.int (nI v)), some (.int (nI w)), some (.int (nI k))] [] (zc n) I1 J 0 0 := by
    intro r
    induction r with
    | zero =>
      intro k I1 hk e1 e2 e3 e5 eb
      obtain rfl : k = 8 := by omega
      exact v204_38 hC I1 J _ _ _ (pk_le 8 8 (fun _ => L2 7 0 I1 (by omega) e1 e2 e3 e5 (fun j hj => by omega) (fun j hj => by omega) (fun j hj => by omega) (fun j hj => by omega) eb) (fun c => by omega))
    | succ r ih =>
      intro k I1 hk e1 e2 e3 e5 eb
      refine v204_38 hC I1 J _ _ _ ?_
      rw [li_8, li_8, nI_clamp (n := 8 * w + k) (by omega), nI_clamp (n := 8 * v + k) (by omega), nI_1]
      refine pk_le 8 k (fun c => by omega) (fun c => ⟨pk_in (8 * w + k) 176 (by omega), pk_in (8 * v + k) 176 (by omega), ?_⟩)
      refine ih (k + 1) _ (by omega) ((pj_u_n (by decide)).trans e1) ((pj_u_n (by decide)).trans e2) ((pj_u_n (by decide)).trans e3) (fun j hj => ?_) (pj_fr_u eb (rg_t (by omega) (by omega)))
      by_cases e : j = k
      · subst e
        rw [pj_u_e]
        exact eb 301 _ (nb (by omega))
      · rw [pj_u_j (by omega)]
        exact e5 j (by omega)
  refine L1 8 0 _ (by omega) ?_ ?_ ?_ (fun j hj => by omega) (pj_fr_u (pj_fr_u (pj_fr_u pj_fr_rf vv) vv) vv)
  · rw [pj_u_n (by decide), pj_u_n (by decide), pj_u_e]
  · rw [pj_u_n (by decide), pj_u_e]
  · rw [pj_u_e]
end PMc
