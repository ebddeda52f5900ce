/-! constructors of the class: tables; those that call others -/
theorem zle_d {D : List (Nat × Nat)} {b c x : Nat} (h : zle D b = true) (hc : c < b) : zle ((c, x) :: D) b = true := by
  unfold zle at h ⊢
  rw [List.all_cons, Bool.and_eq_true, Nat.blt_eq]
  exact ⟨hc, h⟩
theorem nI2_z {I : Nat → Nat → Int32} {a n : Nat} (h : ∀ c j, a < c → c < a + 1 + n → I c j = 0) : pj_nI2 I a n = I := funext fun k => by
  unfold pj_nI2
  by_cases e : a < k ∧ k < a + 1 + n
  · rw [if_pos e]; exact funext fun j => (h k j e.1 e.2).symm
  · rw [if_neg e]
theorem zs_mm {n m nn len : Nat} {D : List (Nat × Nat)} (hK : zK m = 17) (hL : zL n m = nn) (hr : ∀ k, m < k → k < m + 1 + nn → zK k = 13 ∧ zL n k = len ∧ zno k 0 = true) (hR : ∀ j, zR m j = if j < nn then some (m + 1 + j) else none) (hd : ∀ k, m ≤ k → zlk D k = none) : pj_nZ2 (zs n m D) nn len = zs n (m + 1 + nn) D := by
  refine Prod.ext rfl (Prod.ext (funext fun k => ?_) (Prod.ext (funext fun k => ?_) (funext fun k => funext fun j => ?_)))
  · show (if k = m then 17 else if m < k ∧ k < m + 1 + nn then 13 else bif Nat.blt k m then zK k else 20) = bif Nat.blt k (m + 1 + nn) then zK k else 20
    by_cases e : k = m
    · rw [if_pos e, e, bl_t (by omega)]; exact hK.symm
    · rw [if_neg e]
      by_cases c : m < k ∧ k < m + 1 + nn
      · rw [if_pos c, bl_t c.2]; exact (hr k c.1 c.2).1.symm
      · rw [if_neg c]
        by_cases d : k < m
        · rw [bl_t d, bl_t (by omega)]
        · rw [bl_f (by omega), bl_f (by omega)]
  · show (if k = m then nn else if m < k ∧ k < m + 1 + nn then len else bif Nat.blt k m then zL n k else 0) = bif Nat.blt k (m + 1 + nn) then zL n k else 0
    by_cases e : k = m
    · rw [if_pos e, e, bl_t (by omega)]; exact hL.symm
    · rw [if_neg e]
      by_cases c : m < k ∧ k < m + 1 + nn
      · rw [if_pos c, bl_t c.2]; exact (hr k c.1 c.2).2.1.symm
      · rw [if_neg c]
        by_cases d : k < m
        · rw [bl_t d, bl_t (by omega)]
        · rw [bl_f (by omega), bl_f (by omega)]
  · show (if k = m then (fun j => if j < nn then some (m + 1 + j) else none) else zq m D k) j = zq (m + 1 + nn) D k j
    by_cases e : k = m
    · rw [if_pos e, e]
      unfold zq
      rw [bl_t (by omega), hd m (Nat.le_refl _)]
      exact (hR j).symm
    · rw [if_neg e]
      unfold zq
      by_cases c : m < k ∧ k < m + 1 + nn
      · rw [bl_f (by omega), bl_t c.2, hd k (by omega)]
        show none = zR k j
        rcases zno_s (hr k c.1 c.2).2.2 j with t | t
        · rw [Nat.zero_testBit] at t; cases t
        · exact t.symm
      · by_cases d : k < m
        · rw [bl_t d, bl_t (by omega)]
        · rw [bl_f (by omega), bl_f (by omega)]
set_option maxRecDepth 100000 in
theorem zs_m222 {n : Nat} {D : List (Nat × Nat)} (hd : ∀ k, 222 ≤ k → zlk D k = none) : pj_nZ2 (zs n 222 D) 7 8 = zs n 230 D := by
  have a : ∀ i, i < 7 → zK (223 + i) = 13 ∧ zL 0 (223 + i) = 8 ∧ zno (223 + i) 0 = true := by decide +kernel
  have b : ∀ j, j < 70 → zR 222 j = if j < 7 then some (222 + 1 + j) else none := by decide +kernel
  refine zs_mm rfl rfl (fun k h1 h2 => ?_) (fun j => ?_) hd
  · have t := a (k - 223) (by omega)
    rw [show 223 + (k - 223) = k by omega] at t
    exact ⟨t.1, (zL_n (by omega)).trans t.2.1, t.2.2⟩
  · by_cases c : j < 70
    · exact b j c
    · rw [zR_big (by omega), if_neg (by omega)]
set_option maxRecDepth 100000 in
theorem zs_m230 {n : Nat} {D : List (Nat × Nat)} (hd : ∀ k, 230 ≤ k → zlk D k = none) : pj_nZ2 (zs n 230 D) 8 256 = zs n 239 D := by
  have a : ∀ i, i < 8 → zK (231 + i) = 13 ∧ zL 0 (231 + i) = 256 ∧ zno (231 + i) 0 = true := by decide +kernel
  have b : ∀ j, j < 70 → zR 230 j = if j < 8 then some (230 + 1 + j) else none := by decide +kernel
  refine zs_mm rfl rfl (fun k h1 h2 => ?_) (fun j => ?_) hd
  · have t := a (k - 231) (by omega)
    rw [show 231 + (k - 231) = k by omega] at t
    exact ⟨t.1, (zL_n (by omega)).trans t.2.1, t.2.2⟩
  · by_cases c : j < 70
    · exact b j c
    · rw [zR_big (by omega), if_neg (by omega)]
set_option maxRecDepth 100000 in
theorem zs_m261 {n : Nat} {D : List (Nat × Nat)} (hd : ∀ k, 261 ≤ k → zlk D k = none) : pj_nZ2 (zs n 261 D) 9 31 = zs n 271 D := by
  have a : ∀ i, i < 9 → zK (262 + i) = 13 ∧ zL 0 (262 + i) = 31 ∧ zno (262 + i) 0 = true := by decide +kernel
  have b : ∀ j, j < 70 → zR 261 j = if j < 9 then some (261 + 1 + j) else none := by decide +kernel
  refine zs_mm rfl rfl (fun k h1 h2 => ?_) (fun j => ?_) hd
  · have t := a (k - 262) (by omega)
    rw [show 262 + (k - 262) = k by omega] at t
    exact ⟨t.1, (zL_n (by omega)).trans t.2.1, t.2.2⟩
  · by_cases c : j < 70
    · exact b j c
    · rw [zR_big (by omega), if_neg (by omega)]
section PCc
variable {n h : Nat} {Q : pj_K} {I : Nat → Nat → Int32} {J : Nat → Nat → Int64}
/-- Passing.<init> -/
theorem k19_239 (hh : 2 ≤ h) {D : List (Nat × Nat)} (hD : zle D 239 = true) (hz : ∀ c j, 239 ≤ c → I c j = 0) (hj : ∀ c j, 239 ≤ c → J c j = 0) (q : Q none (zs n 251 D, I, J)) : pj_D h 19 [.ref 239, .ref 5] (zs n 240 ((239, 0) :: D), I, J) Q := by
  have hp : ∀ m, 239 < m → ∀ b, zlk ((239, b) :: D) m = none := fun m hm b => by
    show (bif Nat.beq m 239 then some b else zlk D m) = none
    rw [be_f (by omega), zlk_n hD (by omega)]; rfl
  refine pj_ent (g := 1) hh (t := mt_19) rfl rfl ?_
  show pj_R (pj_D 1) ta mc_19 false Q 0 [some (.ref 239), some (.ref 5)] [] (zs n 240 ((239, 0) :: D)) I J 11 295
  refine pj_go (pj_D_le 1) (fun pc => pc == 8) 40 (pj_cT rfl (pj_cT rfl (pj_Rz (L := [some (.ref 239), some (.ref 5)]) (st := [.ref 240, .ref 239]) (bc := 10) (bs := 286) (zs_op rfl rfl) (va_z (m := 240) (fun j => hz 240 j (by decide))) (va_z (m := 240) (fun j => hj 240 j (by decide))) ?_)))
  refine pj_go (pj_D_le 1) (fun pc => pc == 9) 40 (pj_Rz (L := [some (.ref 239), some (.ref 5)]) (st := [.ref 240, .ref 240, .ref 239]) (bc := 10) (bs := 286) rfl rfl rfl ?_)
  refine pj_Rcs (pj_D_le 1) rfl rfl rfl rfl rfl rfl rfl rfl ?_
  refine k70 (by decide) (a := 240) (zst_l 240 (by decide)) (zle_d (zle_m hD (by decide)) (by decide)) (fun c j hc => hz c j (by omega)) (fun c j hc => hj c j (by omega)) ?_
  refine ⟨rfl, ?_⟩
  show pj_R (pj_D 1) ta mc_19 false Q 12 [some (.ref 239), some (.ref 5)] [.ref 240, .ref 239] (zs n 248 ((239, 0) :: D)) I J 3 235
  refine pj_go (pj_D_le 1) (fun pc => pc == 15) 40 (pj_cT rfl (pj_Rz (L := [some (.ref 239), some (.ref 5)]) (st := []) (bc := 3) (bs := 235) (zs_as rfl rfl) rfl rfl ?_))
  refine pj_go (pj_D_le 1) (fun pc => pc == 20) 40 (pj_cT rfl (pj_Rz (L := [some (.ref 239), some (.ref 5)]) (st := [.ref 248, .ref 239]) (bc := 2) (bs := 227) (zs_ar rfl rfl rfl (hp 248 (by decide) _)) (va_z (m := 248) (fun j => hz 248 j (by decide))) (va_z (m := 248) (fun j => hj 248 j (by decide))) ?_))
  refine pj_go (pj_D_le 1) (fun pc => pc == 23) 40 (pj_cT rfl (pj_Rz (L := [some (.ref 239), some (.ref 5)]) (st := []) (bc := 2) (bs := 227) (zs_as rfl rfl) rfl rfl ?_))
  refine pj_go (pj_D_le 1) (fun pc => pc == 29) 40 (pj_cT rfl (pj_Rz (L := [some (.ref 239), some (.ref 5)]) (st := [.ref 249, .ref 239]) (bc := 1) (bs := 3) (zs_ar rfl rfl rfl (hp 249 (by decide) _)) (va_z (m := 249) (fun j => hz 249 j (by decide))) (va_z (m := 249) (fun j => hj 249 j (by decide))) ?_))
  refine pj_go (pj_D_le 1) (fun pc => pc == 32) 40 (pj_cT rfl (pj_Rz (L := [some (.ref 239), some (.ref 5)]) (st := []) (bc := 1) (bs := 3) (zs_as rfl rfl) rfl rfl ?_))
  refine pj_go (pj_D_le 1) (fun pc => pc == 36) 40 (pj_cT rfl (pj_Rz (L := [some (.ref 239), some (.ref 5)]) (st := [.ref 250, .ref 239]) (bc := 0) (bs := 0) (zs_ar rfl rfl rfl (hp 250 (by decide) _)) (va_z (m := 250) (fun j => hz 250 j (by decide))) (va_z (m := 250) (fun j => hj 250 j (by decide))) ?_))
  refine pj_go (pj_D_le 1) (fun pc => pc == 39) 40 (pj_cT rfl (pj_Rz (L := [some (.ref 239), some (.ref 5)]) (st := []) (bc := 0) (bs := 0) (zs_as rfl rfl) rfl rfl ?_))
  refine pj_go (pj_D_le 1) (fun pc => pc == 44) 40 (pj_cT rfl (pj_Rz (L := [some (.ref 239), some (.ref 5)]) (st := []) (bc := 0) (bs := 0) (zs_as rfl rfl) rfl rfl ?_))
  refine pj_go (pj_D_le 1) (fun _ => false) 40 (pj_cT rfl ?_)
  show Q none ((zs n 251 ((239, 31) :: D)), I, J)
  rw [zs_pp (a := 239) rfl (zlk_n hD (Nat.le_refl _))]
  exact q
/-- Matching.<init> -/
theorem k12_221 (hh : 1 ≤ h) {D : List (Nat × Nat)} (hD : zle D 221 = true) (hz : ∀ c j, 221 ≤ c → I c j = 0) (hj : ∀ c j, 221 ≤ c → J c j = 0) (q : Q none (zs n 239 D, I, J)) : pj_D h 12 [.ref 221, .ref 5] (zs n 222 ((221, 0) :: D), I, J) Q := by
  have hp : ∀ m, 221 < m → ∀ b, zlk ((221, b) :: D) m = none := fun m hm b => by
    show (bif Nat.beq m 221 then some b else zlk D m) = none
    rw [be_f (by omega), zlk_n hD (by omega)]; rfl
  refine pj_ent (g := 0) hh (t := mt_12) rfl rfl ?_
  show pj_R (pj_D 0) ta mc_12 false Q 0 [some (.ref 221), some (.ref 5)] [] (zs n 222 ((221, 0) :: D)) I J 17 2119
  refine pj_go (pj_D_le 0) (fun pc => pc == 13) 40 (pj_cT rfl (pj_cT rfl (pj_Rz (L := [some (.ref 221), some (.ref 5)]) (st := [.ref 222, .ref 221]) (bc := 9) (bs := 2056) (zs_m222 (n := n) (fun k hk => hp k (by omega) _)) (nI2_z (a := 222) (n := 7) (fun c j h1 h2 => hz c j (by omega))) rfl ?_)))
  refine pj_go (pj_D_le 0) (fun pc => pc == 16) 40 (pj_cT rfl (pj_Rz (L := [some (.ref 221), some (.ref 5)]) (st := []) (bc := 9) (bs := 2056) (zs_as rfl rfl) rfl rfl ?_))
  refine pj_go (pj_D_le 0) (fun pc => pc == 26) 40 (pj_cT rfl (pj_Rz (L := [some (.ref 221), some (.ref 5)]) (st := [.ref 230, .ref 221]) (bc := 0) (bs := 0) (zs_m230 (n := n) (fun k hk => hp k (by omega) _)) (nI2_z (a := 230) (n := 8) (fun c j h1 h2 => hz c j (by omega))) rfl ?_))
  refine pj_go (pj_D_le 0) (fun pc => pc == 29) 40 (pj_cT rfl (pj_Rz (L := [some (.ref 221), some (.ref 5)]) (st := []) (bc := 0) (bs := 0) (zs_as rfl rfl) rfl rfl ?_))
  refine pj_go (pj_D_le 0) (fun pc => pc == 34) 40 (pj_cT rfl (pj_Rz (L := [some (.ref 221), some (.ref 5)]) (st := []) (bc := 0) (bs := 0) (zs_as rfl rfl) rfl rfl ?_))
  refine pj_go (pj_D_le 0) (fun _ => false) 40 (pj_cT rfl ?_)
  show Q none ((zs n 239 ((221, 7) :: D)), I, J)
  rw [zs_pp (a := 221) rfl (zlk_n hD (Nat.le_refl _))]
  exact q
/-- Telling.<init> -/
theorem k87_251 (hh : 2 ≤ h) {D : List (Nat × Nat)} (hD : zle D 251 = true) (hz : ∀ c j, 251 ≤ c → I c j = 0) (hj : ∀ c j, 251 ≤ c → J c j = 0) (q : Q none (zs n 272 D, (pj_u (pj_u (pj_u I 251 9 (-1)) 251 10 (-1)) 251 11 (-1)), J)) : pj_D h 87 [.ref 251, .ref 5, .ref 34] (zs n 252 ((251, 0) :: D), I, J) Q := by
  have hp : ∀ m, 251 < m → ∀ b, zlk ((251, b) :: D) m = none := fun m hm b => by
    show (bif Nat.beq m 251 then some b else zlk D m) = none
    rw [be_f (by omega), zlk_n hD (by omega)]; rfl
  refine pj_ent (g := 1) hh (t := mt_87) rfl rfl ?_
  show pj_R (pj_D 1) ta mc_87 false Q 0 [some (.ref 251), some (.ref 5), some (.ref 34)] [] (zs n 252 ((251, 0) :: D)) I J 20 405
  refine pj_go (pj_D_le 1) (fun pc => pc == 8) 40 (pj_cT rfl (pj_cT rfl (pj_Rz (L := [some (.ref 251), some (.ref 5), some (.ref 34)]) (st := [.ref 252, .ref 251]) (bc := 19) (bs := 396) (zs_op rfl rfl) (va_z (m := 252) (fun j => hz 252 j (by decide))) (va_z (m := 252) (fun j => hj 252 j (by decide))) ?_)))
  refine pj_go (pj_D_le 1) (fun pc => pc == 9) 40 (pj_Rz (L := [some (.ref 251), some (.ref 5), some (.ref 34)]) (st := [.ref 252, .ref 252, .ref 251]) (bc := 19) (bs := 396) rfl rfl rfl ?_)
  refine pj_Rcs (pj_D_le 1) rfl rfl rfl rfl rfl rfl rfl rfl ?_
  refine k70 (by decide) (a := 252) (zst_l 252 (by decide)) (zle_d (zle_m hD (by decide)) (by decide)) (fun c j hc => hz c j (by omega)) (fun c j hc => hj c j (by omega)) ?_
  refine ⟨rfl, ?_⟩
  show pj_R (pj_D 1) ta mc_87 false Q 12 [some (.ref 251), some (.ref 5), some (.ref 34)] [.ref 252, .ref 251] (zs n 260 ((251, 0) :: D)) I J 12 345
  refine pj_go (pj_D_le 1) (fun pc => pc == 15) 40 (pj_cT rfl (pj_Rz (L := [some (.ref 251), some (.ref 5), some (.ref 34)]) (st := []) (bc := 12) (bs := 345) (zs_as rfl rfl) rfl rfl ?_))
  refine pj_go (pj_D_le 1) (fun pc => pc == 20) 40 (pj_cT rfl (pj_Rz (L := [some (.ref 251), some (.ref 5), some (.ref 34)]) (st := [.ref 260, .ref 251]) (bc := 11) (bs := 297) (zs_ar rfl rfl rfl (hp 260 (by decide) _)) (va_z (m := 260) (fun j => hz 260 j (by decide))) (va_z (m := 260) (fun j => hj 260 j (by decide))) ?_))
  refine pj_go (pj_D_le 1) (fun pc => pc == 23) 40 (pj_cT rfl (pj_Rz (L := [some (.ref 251), some (.ref 5), some (.ref 34)]) (st := []) (bc := 11) (bs := 297) (zs_as rfl rfl) rfl rfl ?_))
  refine pj_go (pj_D_le 1) (fun pc => pc == 28) 40 (pj_cT rfl (pj_Rz (L := [some (.ref 251), some (.ref 5), some (.ref 34)]) (st := []) (bc := 11) (bs := 297) rfl (pj_u_z (hz 251 4 (by decide))) rfl ?_))
  refine pj_go (pj_D_le 1) (fun pc => pc == 37) 40 (pj_cT rfl (pj_Rz (L := [some (.ref 251), some (.ref 5), some (.ref 34)]) (st := [.ref 261, .ref 251]) (bc := 1) (bs := 9) (zs_m261 (n := n) (fun k hk => hp k (by omega) _)) (nI2_z (a := 261) (n := 9) (fun c j h1 h2 => hz c j (by omega))) rfl ?_))
  refine pj_go (pj_D_le 1) (fun pc => pc == 40) 40 (pj_cT rfl (pj_Rz (L := [some (.ref 251), some (.ref 5), some (.ref 34)]) (st := []) (bc := 1) (bs := 9) (zs_as rfl rfl) rfl rfl ?_))
  refine pj_go (pj_D_le 1) (fun pc => pc == 45) 40 (pj_cT rfl (pj_Rz (L := [some (.ref 251), some (.ref 5), some (.ref 34)]) (st := [.ref 271, .ref 251]) (bc := 0) (bs := 0) (zs_ar rfl rfl rfl (hp 271 (by decide) _)) (va_z (m := 271) (fun j => hz 271 j (by decide))) (va_z (m := 271) (fun j => hj 271 j (by decide))) ?_))
  refine pj_go (pj_D_le 1) (fun pc => pc == 48) 40 (pj_cT rfl (pj_Rz (L := [some (.ref 251), some (.ref 5), some (.ref 34)]) (st := []) (bc := 0) (bs := 0) (zs_as rfl rfl) rfl rfl ?_))
  refine pj_go (pj_D_le 1) (fun pc => pc == 53) 40 (pj_cT rfl (pj_Rz (L := [some (.ref 251), some (.ref 5), some (.ref 34)]) (st := []) (bc := 0) (bs := 0) rfl (pj_u_z (hz 251 7 (by decide))) rfl ?_))
  refine pj_go (pj_D_le 1) (fun pc => pc == 58) 40 (pj_cT rfl (pj_Rz (L := [some (.ref 251), some (.ref 5), some (.ref 34)]) (st := []) (bc := 0) (bs := 0) rfl (pj_u_z (hz 251 8 (by decide))) rfl ?_))
  refine pj_go (pj_D_le 1) (fun pc => pc == 63) 40 (pj_cT rfl (pj_Rz (L := [some (.ref 251), some (.ref 5), some (.ref 34)]) (st := []) (bc := 0) (bs := 0) rfl rfl rfl ?_))
  refine pj_go (pj_D_le 1) (fun pc => pc == 68) 40 (pj_cT rfl (pj_Rz (L := [some (.ref 251), some (.ref 5), some (.ref 34)]) (st := []) (bc := 0) (bs := 0) rfl rfl rfl ?_))
  refine pj_go (pj_D_le 1) (fun pc => pc == 73) 40 (pj_cT rfl (pj_Rz (L := [some (.ref 251), some (.ref 5), some (.ref 34)]) (st := []) (bc := 0) (bs := 0) rfl rfl rfl ?_))
  refine pj_go (pj_D_le 1) (fun pc => pc == 78) 40 (pj_cT rfl (pj_Rz (L := [some (.ref 251), some (.ref 5), some (.ref 34)]) (st := []) (bc := 0) (bs := 0) (zs_as rfl rfl) rfl rfl ?_))
  refine pj_go (pj_D_le 1) (fun pc => pc == 83) 40 (pj_cT rfl (pj_Rz (L := [some (.ref 251), some (.ref 5), some (.ref 34)]) (st := []) (bc := 0) (bs := 0) (zs_as rfl rfl) rfl rfl ?_))
  refine pj_go (pj_D_le 1) (fun _ => false) 40 (pj_cT rfl ?_)
  show Q none ((zs n 272 ((251, 111) :: D)), (pj_u (pj_u (pj_u I 251 9 (-1)) 251 10 (-1)) 251 11 (-1)), J)
  rw [zs_pp (a := 251) rfl (zlk_n hD (Nat.le_refl _))]
  exact q
end PCc
