/-! constructors: the cells that stand so far -/
def zlk : List (Nat × Nat) → Nat → Option Nat
  | [], _ => none
  | q :: D, k => bif Nat.beq k q.1 then some q.2 else zlk D k
def zle (D : List (Nat × Nat)) (a : Nat) : Bool := D.all (fun q => Nat.blt q.1 a)
/-- references: of the cells that are being made (D) those that are told by bits -/
def zq (m : Nat) (D : List (Nat × Nat)) (k j : Nat) : Option Nat := bif Nat.blt k m then (match zlk D k with | none => zR k j | some b => bif b.testBit j then zR k j else none) else none
def zs (n m : Nat) (D : List (Nat × Nat)) : pj_Z := (m, (fun k => bif Nat.blt k m then zK k else 20), (fun k => bif Nat.blt k m then zL n k else 0), zq m D)
def zno (k b : Nat) : Bool := (List.range 70).all (fun j => b.testBit j || (zR k j).isNone)
theorem bl_t {a b : Nat} (h : a < b) : Nat.blt a b = true := by rw [Nat.blt_eq]; exact h
theorem bl_f {a b : Nat} (h : b ≤ a) : Nat.blt a b = false := blt_f.mpr h
theorem be_f {a b : Nat} (h : a ≠ b) : Nat.beq a b = false := by
  cases e : Nat.beq a b with
  | false => rfl
  | true => exact absurd (Nat.eq_of_beq_eq_true e) h
theorem be_t (a : Nat) : Nat.beq a a = true := Nat.beq_refl a
theorem cond_ap {b : Bool} {f g : Nat → Option Nat} {j : Nat} : (bif b then f else g) j = bif b then f j else g j := by cases b <;> rfl
theorem zR_big {k j : Nat} (hj : 70 ≤ j) : zR k j = none := by
  have b : ∀ lo hi, hi < 70 → (Nat.ble lo j && Nat.ble j hi) = false := fun lo hi h => by rw [ble_f.mpr (show hi < j by omega), Bool.and_false]
  unfold zR
  simp only [cond_ap, b, cond_false, Bool.cond_self, Nat.reduceLT]
theorem zno_s {k b : Nat} (h : zno k b = true) (j : Nat) : b.testBit j = true ∨ zR k j = none := by
  by_cases c : j < 70
  · have := List.all_eq_true.mp h j (List.mem_range.mpr c)
    rw [Bool.or_eq_true] at this
    rcases this with t | t
    · exact Or.inl t
    · exact Or.inr (Option.isNone_iff_eq_none.mp t)
  · exact Or.inr (zR_big (by omega))
theorem zlk_n {a k : Nat} : ∀ {D : List (Nat × Nat)}, zle D a = true → a ≤ k → zlk D k = none
  | [], _, _ => rfl
  | q :: D, h, hk => by
    unfold zle at h
    rw [List.all_cons, Bool.and_eq_true, Nat.blt_eq] at h
    unfold zlk
    rw [be_f (by omega)]
    exact zlk_n (D := D) h.2 hk
theorem zle_m {D : List (Nat × Nat)} {a b : Nat} (h : zle D a = true) (hab : a ≤ b) : zle D b = true := by
  unfold zle at h ⊢
  rw [List.all_eq_true] at h ⊢
  intro q hq
  have := h q hq
  rw [Nat.blt_eq] at this ⊢
  omega
theorem zle_c {D : List (Nat × Nat)} {a c b : Nat} (h : zle D a = true) (hab : a < b) (hc : c < b) : zle ((c, a) :: D) b = true ∧ ∀ x, zle ((c, x) :: D) b = true := by
  have t := zle_m h (Nat.le_of_lt hab)
  have : ∀ x, zle ((c, x) :: D) b = true := fun x => by
    unfold zle at t ⊢
    rw [List.all_cons, Bool.and_eq_true, Nat.blt_eq]
    exact ⟨hc, t⟩
  exact ⟨this _, this⟩
/-- a cell more, being made -/
theorem zs_op {n m kd ln : Nat} {D : List (Nat × Nat)} (hk : zK m = kd) (hl : zL n m = ln) : pj_nZ (zs n m D) kd ln = zs n (m + 1) ((m, 0) :: D) := by
  refine Prod.ext rfl (Prod.ext (funext fun k => ?_) (Prod.ext (funext fun k => ?_) (funext fun k => funext fun j => ?_)))
  · show va_up (fun k => bif Nat.blt k m then zK k else 20) m kd k = bif Nat.blt k (m + 1) then zK k else 20
    by_cases e : k = m
    · rw [e, va_up_self, bl_t (Nat.lt_succ_self m)]; exact hk.symm
    · rw [va_up_ne _ _ e]
      by_cases c : k < m
      · rw [bl_t c, bl_t (by omega)]
      · rw [bl_f (by omega), bl_f (by omega)]
  · show va_up (fun k => bif Nat.blt k m then zL n k else 0) m ln k = bif Nat.blt k (m + 1) then zL n k else 0
    by_cases e : k = m
    · rw [e, va_up_self, bl_t (Nat.lt_succ_self m)]; exact hl.symm
    · rw [va_up_ne _ _ e]
      by_cases c : k < m
      · rw [bl_t c, bl_t (by omega)]
      · rw [bl_f (by omega), bl_f (by omega)]
  · show va_up (zq m D) m (fun _ => none) k j = zq (m + 1) ((m, 0) :: D) k j
    unfold zq
    by_cases e : k = m
    · have z : zlk ((m, 0) :: D) k = some 0 := by
        show (bif Nat.beq k m then some 0 else zlk D k) = some 0
        rw [e, be_t]; rfl
      rw [z, e, va_up_self, bl_t (Nat.lt_succ_self m)]
      show none = bif Nat.testBit 0 j then zR m j else none
      rw [Nat.zero_testBit]; rfl
    · have z : zlk ((m, 0) :: D) k = zlk D k := by
        show (bif Nat.beq k m then some 0 else zlk D k) = zlk D k
        rw [be_f e]; rfl
      rw [z, va_up_ne _ _ e]
      by_cases c : k < m
      · rw [bl_t c, bl_t (by omega)]
      · rw [bl_f (by omega), bl_f (by omega)]
/-- it is made -/
theorem zs_pp {n m a b : Nat} {D : List (Nat × Nat)} (h : zno a b = true) (hd : zlk D a = none) : zs n m ((a, b) :: D) = zs n m D := by
  refine Prod.ext rfl (Prod.ext rfl (Prod.ext rfl (funext fun k => funext fun j => ?_)))
  show zq m ((a, b) :: D) k j = zq m D k j
  unfold zq
  by_cases e : k = a
  · have z : zlk ((a, b) :: D) k = some b := by unfold zlk; rw [e, be_t]; rfl
    rw [z, e, hd]
    show (bif Nat.blt a m then (bif b.testBit j then zR a j else none) else none) = (bif Nat.blt a m then zR a j else none)
    rcases zno_s h j with t | t
    · rw [t]; rfl
    · rw [t]; cases b.testBit j <;> rfl
  · have z : zlk ((a, b) :: D) k = zlk D k := by
      show (bif Nat.beq k a then some b else zlk D k) = zlk D k
      rw [be_f e]; rfl
    rw [z]
/-- a cell more, without references -/
theorem zs_ar {n m kd ln : Nat} {D : List (Nat × Nat)} (hk : zK m = kd) (hl : zL n m = ln) (hr : zno m 0 = true) (hd : zlk D m = none) : pj_nZ (zs n m D) kd ln = zs n (m + 1) D := (zs_op hk hl).trans (zs_pp hr hd)
/-- a reference is told -/
theorem zs_as {n m a b y r : Nat} {D : List (Nat × Nat)} (ha : Nat.blt a m = true) (hr : zR a y = some r) : ((zs n m ((a, b) :: D)).1, (zs n m ((a, b) :: D)).2.1, (zs n m ((a, b) :: D)).2.2.1, pj_u (zs n m ((a, b) :: D)).2.2.2 a y (some r)) = zs n m ((a, b ||| 2 ^ y) :: D) := by
  refine Prod.ext rfl (Prod.ext rfl (Prod.ext rfl (funext fun k => funext fun j => ?_)))
  show pj_u (zq m ((a, b) :: D)) a y (some r) k j = zq m ((a, b ||| 2 ^ y) :: D) k j
  by_cases e : k = a
  · subst e
    have z : ∀ x, zlk ((k, x) :: D) k = some x := fun x => by unfold zlk; rw [be_t]; rfl
    by_cases e2 : j = y
    · subst e2
      rw [pj_u_e]
      unfold zq
      rw [z, ha, hr]
      show some r = bif (b ||| 2 ^ j).testBit j then some r else none
      rw [Nat.testBit_or, Nat.testBit_two_pow_self, Bool.or_true]; rfl
    · rw [pj_u_j e2]
      unfold zq
      rw [z, z]
      show (bif Nat.blt k m then (bif b.testBit j then zR k j else none) else none) = (bif Nat.blt k m then (bif (b ||| 2 ^ y).testBit j then zR k j else none) else none)
      rw [Nat.testBit_or, Nat.testBit_two_pow_of_ne (Ne.symm e2), Bool.or_false]
  · rw [pj_u_n e]
    unfold zq
    have z : ∀ x, zlk ((a, x) :: D) k = zlk D k := fun x => by
      show (bif Nat.beq k a then some x else zlk D k) = zlk D k
      rw [be_f e]; rfl
    rw [z, z]
theorem zs_sw {n m a b c d : Nat} {D : List (Nat × Nat)} (h : a ≠ c) : zs n m ((a, b) :: (c, d) :: D) = zs n m ((c, d) :: (a, b) :: D) := by
  refine Prod.ext rfl (Prod.ext rfl (Prod.ext rfl (funext fun k => funext fun j => ?_)))
  show zq m ((a, b) :: (c, d) :: D) k j = zq m ((c, d) :: (a, b) :: D) k j
  have z : zlk ((a, b) :: (c, d) :: D) k = zlk ((c, d) :: (a, b) :: D) k := by
    show (bif Nat.beq k a then some b else bif Nat.beq k c then some d else zlk D k) = (bif Nat.beq k c then some d else bif Nat.beq k a then some b else zlk D k)
    by_cases e : k = a
    · rw [e, be_t, be_f h]; rfl
    · rw [be_f e]; rfl
  unfold zq
  rw [z]
theorem zs_0 {n : Nat} : pj_Z0 n = zs n 2 [] := by
  refine Prod.ext rfl (Prod.ext (funext fun k => ?_) (Prod.ext (funext fun k => ?_) (funext fun k => funext fun j => ?_)))
  · rcases k with _ | _ | k
    · rfl
    · rfl
    · show 20 = bif Nat.blt (k + 1 + 1) 2 then zK (k + 1 + 1) else 20
      rw [bl_f (by omega)]; rfl
  · rcases k with _ | _ | k
    · rfl
    · rfl
    · show 0 = bif Nat.blt (k + 1 + 1) 2 then zL n (k + 1 + 1) else 0
      rw [bl_f (by omega)]; rfl
  · rcases k with _ | _ | k
    · rfl
    · rfl
    · show none = zq 2 [] (k + 1 + 1) j
      unfold zq
      rw [bl_f (by omega)]; rfl
theorem zs_E {n : Nat} : zs n 319 [] = zc n := by
  refine Prod.ext rfl (Prod.ext (funext fun k => ?_) (Prod.ext (funext fun k => ?_) (funext fun k => funext fun j => ?_)))
  · show (bif Nat.blt k 319 then zK k else 20) = zK k
    by_cases c : k < 319
    · rw [bl_t c]; rfl
    · unfold zK; rw [bl_f (by omega)]; rfl
  · show (bif Nat.blt k 319 then zL n k else 0) = zL n k
    by_cases c : k < 319
    · rw [bl_t c]; rfl
    · unfold zL; rw [bl_f (by omega), be_f (by omega)]; rfl
  · show zq 319 [] k j = zR k j
    unfold zq
    by_cases c : k < 319
    · rw [bl_t c]; rfl
    · unfold zR; rw [bl_f (by omega)]; rfl
theorem va_z {α : Type} {I : Nat → Nat → α} {m : Nat} {z : α} (h : ∀ j, I m j = z) : va_up I m (fun _ => z) = I := funext fun k => by
  by_cases e : k = m
  · rw [e, va_up_self]; exact funext fun j => (h j).symm
  · exact va_up_ne _ _ e
theorem pj_u_z {α : Type} {I : Nat → Nat → α} {a y : Nat} {z : α} (h : I a y = z) : pj_u I a y z = I := funext fun k => funext fun j => by
  by_cases e : k = a
  · by_cases e2 : j = y
    · rw [e, e2, pj_u_e, h]
    · rw [pj_u_j e2]
  · rw [pj_u_n e]
theorem pj_Rz {C : pj_CT} {al : Nat → Nat × Nat} {M : pj_M} {rt : Bool} {Q : pj_K} {pc : Nat} {L : pj_L} {st : List Value} {Z Z' : pj_Z} {I I' : Nat → Nat → Int32} {J J' : Nat → Nat → Int64} {bc bs : Nat} (hZ : Z = Z') (hI : I = I') (hJ : J = J') (h : pj_R C al M rt Q pc L st Z' I' J' bc bs) : pj_R C al M rt Q pc L st Z I J bc bs := by
  subst hZ
  subst hI
  subst hJ
  exact h
theorem zs_k {n m k : Nat} {D : List (Nat × Nat)} (h : k < m) : (zs n m D).2.1 k = zK k := by
  show (bif Nat.blt k m then zK k else 20) = zK k
  rw [bl_t h]; rfl
theorem zL_n {n k : Nat} (h : k ≠ 0) : zL n k = zL 0 k := by
  unfold zL
  rw [be_f h]; rfl
/-- a State, as it is made -/
def zst (a : Nat) : Bool := Nat.beq (zK a) 7 && (Nat.beq (zK (a + 1)) 13 && Nat.beq (zL 0 (a + 1)) 8 && zno (a + 1) 0 && decide (zR a 0 = some (a + 1))) && (Nat.beq (zK (a + 2)) 15 && Nat.beq (zL 0 (a + 2)) 8 && zno (a + 2) 0 && decide (zR a 1 = some (a + 2))) && (Nat.beq (zK (a + 3)) 13 && Nat.beq (zL 0 (a + 3)) 7 && zno (a + 3) 0 && decide (zR a 2 = some (a + 3))) && (Nat.beq (zK (a + 4)) 13 && Nat.beq (zL 0 (a + 4)) 7 && zno (a + 4) 0 && decide (zR a 3 = some (a + 4))) && (Nat.beq (zK (a + 5)) 13 && Nat.beq (zL 0 (a + 5)) 7 && zno (a + 5) 0 && decide (zR a 4 = some (a + 5))) && (Nat.beq (zK (a + 6)) 13 && Nat.beq (zL 0 (a + 6)) 7 && zno (a + 6) 0 && decide (zR a 5 = some (a + 6))) && (Nat.beq (zK (a + 7)) 15 && Nat.beq (zL 0 (a + 7)) 7 && zno (a + 7) 0 && decide (zR a 6 = some (a + 7))) && zno a 127 && Nat.beq (zL 0 a) 0
set_option maxRecDepth 100000 in
theorem zst_l : ∀ a ∈ [35, 43, 51, 240, 252], zst a = true := by decide +kernel
set_option maxRecDepth 100000 in
theorem zst_h : ∀ k, k < 20 → zst (61 + 8 * k) = true := by decide +kernel
section PCo
variable {n h : Nat} {Q : pj_K} {I : Nat → Nat → Int32} {J : Nat → Nat → Int64}
/-- State.<init> -/
theorem k70 (hh : 1 ≤ h) {a : Nat} {D : List (Nat × Nat)} (hs : zst a = true) (hD : zle D a = true) (hz : ∀ c j, a ≤ c → I c j = 0) (hj : ∀ c j, a ≤ c → J c j = 0) (q : Q none (zs n (a + 8) D, I, J)) : pj_D h 70 [.ref a] (zs n (a + 1) ((a, 0) :: D), I, J) Q := by
  unfold zst at hs
  simp only [Bool.and_eq_true, Nat.beq_eq, decide_eq_true_eq] at hs
  obtain ⟨⟨⟨⟨⟨⟨⟨⟨⟨h0, h1⟩, h2⟩, h3⟩, h4⟩, h5⟩, h6⟩, h7⟩, h8⟩, h9⟩ := hs
  have pz : ∀ m, a < m → ∀ b, zlk ((a, b) :: D) m = none := fun m hm b => by
    show (bif Nat.beq m a then some b else zlk D m) = none
    rw [be_f (by omega), zlk_n hD (by omega)]; rfl
  have k7 : ∀ m E, a < m → Nat.beq ((zs n m E).2.1 a) 7 = true := fun m E hm => by rw [zs_k hm, h0]; rfl
  refine pj_ent (g := 0) hh (t := mt_70) rfl rfl ?_
  show pj_R (pj_D 0) ta mc_70 false Q 0 [some (.ref a)] [] (zs n (a + 1) ((a, 0) :: D)) I J 7 51
  refine pj_go (pj_D_le 0) (fun pc => pc == 9) 40 (pj_cT rfl (pj_cT rfl (pj_Rz (Z' := zs n (a + 2) ((a, 0) :: D)) (L := [some (.ref a)]) (st := [.ref (a + 1), .ref a]) (bc := 6) (bs := 43) (zs_ar (m := a + 1) (D := (a, 0) :: D) h1.1.1.1 ((zL_n (by omega)).trans h1.1.1.2) h1.1.2 (pz _ (by omega) _)) (va_z (m := a + 1) (fun j => hz (a + 1) j (by omega))) (va_z (m := a + 1) (fun j => hj (a + 1) j (by omega))) ?_)))
  refine pj_go (pj_D_le 0) (fun pc => pc == 12) 40 (pj_cT (k7 (a + 2) _ (by omega)) (pj_Rz (Z' := zs n (a + 2) ((a, 1) :: D)) (L := [some (.ref a)]) (st := []) (bc := 6) (bs := 43) (zs_as (b := 0) (bl_t (by omega)) h1.2) rfl rfl ?_))
  refine pj_go (pj_D_le 0) (fun pc => pc == 17) 40 (pj_cT rfl (pj_Rz (Z' := zs n (a + 3) ((a, 1) :: D)) (L := [some (.ref a)]) (st := [.ref (a + 2), .ref a]) (bc := 5) (bs := 35) (zs_ar (m := a + 2) (D := (a, 1) :: D) h2.1.1.1 ((zL_n (by omega)).trans h2.1.1.2) h2.1.2 (pz _ (by omega) _)) (va_z (m := a + 2) (fun j => hz (a + 2) j (by omega))) (va_z (m := a + 2) (fun j => hj (a + 2) j (by omega))) ?_))
  refine pj_go (pj_D_le 0) (fun pc => pc == 20) 40 (pj_cT (k7 (a + 3) _ (by omega)) (pj_Rz (Z' := zs n (a + 3) ((a, 3) :: D)) (L := [some (.ref a)]) (st := []) (bc := 5) (bs := 35) (zs_as (b := 1) (bl_t (by omega)) h2.2) rfl rfl ?_))
  refine pj_go (pj_D_le 0) (fun pc => pc == 25) 40 (pj_cT rfl (pj_Rz (Z' := zs n (a + 4) ((a, 3) :: D)) (L := [some (.ref a)]) (st := [.ref (a + 3), .ref a]) (bc := 4) (bs := 28) (zs_ar (m := a + 3) (D := (a, 3) :: D) h3.1.1.1 ((zL_n (by omega)).trans h3.1.1.2) h3.1.2 (pz _ (by omega) _)) (va_z (m := a + 3) (fun j => hz (a + 3) j (by omega))) (va_z (m := a + 3) (fun j => hj (a + 3) j (by omega))) ?_))
  refine pj_go (pj_D_le 0) (fun pc => pc == 28) 40 (pj_cT (k7 (a + 4) _ (by omega)) (pj_Rz (Z' := zs n (a + 4) ((a, 7) :: D)) (L := [some (.ref a)]) (st := []) (bc := 4) (bs := 28) (zs_as (b := 3) (bl_t (by omega)) h3.2) rfl rfl ?_))
  refine pj_go (pj_D_le 0) (fun pc => pc == 33) 40 (pj_cT rfl (pj_Rz (Z' := zs n (a + 5) ((a, 7) :: D)) (L := [some (.ref a)]) (st := [.ref (a + 4), .ref a]) (bc := 3) (bs := 21) (zs_ar (m := a + 4) (D := (a, 7) :: D) h4.1.1.1 ((zL_n (by omega)).trans h4.1.1.2) h4.1.2 (pz _ (by omega) _)) (va_z (m := a + 4) (fun j => hz (a + 4) j (by omega))) (va_z (m := a + 4) (fun j => hj (a + 4) j (by omega))) ?_))
  refine pj_go (pj_D_le 0) (fun pc => pc == 36) 40 (pj_cT (k7 (a + 5) _ (by omega)) (pj_Rz (Z' := zs n (a + 5) ((a, 15) :: D)) (L := [some (.ref a)]) (st := []) (bc := 3) (bs := 21) (zs_as (b := 7) (bl_t (by omega)) h4.2) rfl rfl ?_))
  refine pj_go (pj_D_le 0) (fun pc => pc == 41) 40 (pj_cT rfl (pj_Rz (Z' := zs n (a + 6) ((a, 15) :: D)) (L := [some (.ref a)]) (st := [.ref (a + 5), .ref a]) (bc := 2) (bs := 14) (zs_ar (m := a + 5) (D := (a, 15) :: D) h5.1.1.1 ((zL_n (by omega)).trans h5.1.1.2) h5.1.2 (pz _ (by omega) _)) (va_z (m := a + 5) (fun j => hz (a + 5) j (by omega))) (va_z (m := a + 5) (fun j => hj (a + 5) j (by omega))) ?_))
  refine pj_go (pj_D_le 0) (fun pc => pc == 44) 40 (pj_cT (k7 (a + 6) _ (by omega)) (pj_Rz (Z' := zs n (a + 6) ((a, 31) :: D)) (L := [some (.ref a)]) (st := []) (bc := 2) (bs := 14) (zs_as (b := 15) (bl_t (by omega)) h5.2) rfl rfl ?_))
  refine pj_go (pj_D_le 0) (fun pc => pc == 49) 40 (pj_cT rfl (pj_Rz (Z' := zs n (a + 7) ((a, 31) :: D)) (L := [some (.ref a)]) (st := [.ref (a + 6), .ref a]) (bc := 1) (bs := 7) (zs_ar (m := a + 6) (D := (a, 31) :: D) h6.1.1.1 ((zL_n (by omega)).trans h6.1.1.2) h6.1.2 (pz _ (by omega) _)) (va_z (m := a + 6) (fun j => hz (a + 6) j (by omega))) (va_z (m := a + 6) (fun j => hj (a + 6) j (by omega))) ?_))
  refine pj_go (pj_D_le 0) (fun pc => pc == 52) 40 (pj_cT (k7 (a + 7) _ (by omega)) (pj_Rz (Z' := zs n (a + 7) ((a, 63) :: D)) (L := [some (.ref a)]) (st := []) (bc := 1) (bs := 7) (zs_as (b := 31) (bl_t (by omega)) h6.2) rfl rfl ?_))
  refine pj_go (pj_D_le 0) (fun pc => pc == 57) 40 (pj_cT rfl (pj_Rz (Z' := zs n (a + 8) ((a, 63) :: D)) (L := [some (.ref a)]) (st := [.ref (a + 7), .ref a]) (bc := 0) (bs := 0) (zs_ar (m := a + 7) (D := (a, 63) :: D) h7.1.1.1 ((zL_n (by omega)).trans h7.1.1.2) h7.1.2 (pz _ (by omega) _)) (va_z (m := a + 7) (fun j => hz (a + 7) j (by omega))) (va_z (m := a + 7) (fun j => hj (a + 7) j (by omega))) ?_))
  refine pj_go (pj_D_le 0) (fun pc => pc == 60) 40 (pj_cT (k7 (a + 8) _ (by omega)) (pj_Rz (Z' := zs n (a + 8) ((a, 127) :: D)) (L := [some (.ref a)]) (st := []) (bc := 0) (bs := 0) (zs_as (b := 63) (bl_t (by omega)) h7.2) rfl rfl ?_))
  refine pj_go (pj_D_le 0) (fun pc => pc == 65) 40 (pj_cT (k7 (a + 8) _ (by omega)) (pj_Rz (L := [some (.ref a)]) (st := []) (bc := 0) (bs := 0) rfl (pj_u_z (hz a 7 (Nat.le_refl _))) rfl ?_))
  refine pj_go (pj_D_le 0) (fun pc => pc == 70) 40 (pj_cT (k7 (a + 8) _ (by omega)) (pj_Rz (L := [some (.ref a)]) (st := []) (bc := 0) (bs := 0) rfl (pj_u_z (hz a 8 (Nat.le_refl _))) rfl ?_))
  refine pj_go (pj_D_le 0) (fun _ => false) 40 (pj_cT rfl ?_)
  show Q none (zs n (a + 8) ((a, 127) :: D), I, J)
  rw [zs_pp h8 (zlk_n hD (Nat.le_refl _))]
  exact q
end PCo
