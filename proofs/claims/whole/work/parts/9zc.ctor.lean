/-! constructors of the class -/
section PCa
variable {n h : Nat} {Q : pj_K} {I : Nat → Nat → Int32} {J : Nat → Nat → Int64}
/-- Tape.<init> -/
theorem k81_3 (hh : 1 ≤ h) {D : List (Nat × Nat)} (hD : zle D 3 = true) (hz : ∀ c j, 3 ≤ c → I c j = 0) (hj : ∀ c j, 3 ≤ c → J c j = 0) (q : Q none (zs n 5 D, I, J)) : pj_D h 81 [.ref 3] (zs n 4 ((3, 0) :: D), I, J) Q := by
  have hp : ∀ m, 3 < m → ∀ b, zlk ((3, b) :: D) m = none := fun m hm b => by
    show (bif Nat.beq m 3 then some b else zlk D m) = none
    rw [be_f (by omega), zlk_n hD (by omega)]; rfl
  refine pj_ent (g := 0) hh (t := mt_81) rfl rfl ?_
  show pj_R (pj_D 0) ta mc_81 false Q 0 [some (.ref 3)] [] (zs n 4 ((3, 0) :: D)) I J 1 1600
  refine pj_go (pj_D_le 0) (fun pc => pc == 10) 40 (pj_cT rfl (pj_cT rfl (pj_Rz (L := [some (.ref 3)]) (st := [.ref 4, .ref 3]) (bc := 0) (bs := 0) (zs_ar rfl rfl rfl (hp 4 (by decide) _)) (va_z (m := 4) (fun j => hz 4 j (by decide))) (va_z (m := 4) (fun j => hj 4 j (by decide))) ?_)))
  refine pj_go (pj_D_le 0) (fun pc => pc == 13) 40 (pj_cT rfl (pj_Rz (L := [some (.ref 3)]) (st := []) (bc := 0) (bs := 0) (zs_as rfl rfl) rfl rfl ?_))
  refine pj_go (pj_D_le 0) (fun pc => pc == 18) 40 (pj_cT rfl (pj_Rz (L := [some (.ref 3)]) (st := []) (bc := 0) (bs := 0) rfl (pj_u_z (hz 3 1 (by decide))) rfl ?_))
  refine pj_go (pj_D_le 0) (fun _ => false) 40 (pj_cT rfl ?_)
  show Q none ((zs n 5 ((3, 1) :: D)), I, J)
  rw [zs_pp (a := 3) rfl (zlk_n hD (Nat.le_refl _))]
  exact q
/-- Works.<init> -/
theorem k98_5 (hh : 1 ≤ h) {D : List (Nat × Nat)} (hD : zle D 5 = true) (hz : ∀ c j, 5 ≤ c → I c j = 0) (hj : ∀ c j, 5 ≤ c → J c j = 0) (q : Q none (zs n 18 D, I, J)) : pj_D h 98 [.ref 5] (zs n 6 ((5, 0) :: D), I, J) Q := by
  have hp : ∀ m, 5 < m → ∀ b, zlk ((5, b) :: D) m = none := fun m hm b => by
    show (bif Nat.beq m 5 then some b else zlk D m) = none
    rw [be_f (by omega), zlk_n hD (by omega)]; rfl
  refine pj_ent (g := 0) hh (t := mt_98) rfl rfl ?_
  show pj_R (pj_D 0) ta mc_98 false Q 0 [some (.ref 5)] [] (zs n 6 ((5, 0) :: D)) I J 12 1815
  refine pj_go (pj_D_le 0) (fun pc => pc == 9) 40 (pj_cT rfl (pj_cT rfl (pj_Rz (L := [some (.ref 5)]) (st := [.ref 6, .ref 5]) (bc := 11) (bs := 1807) (zs_ar rfl rfl rfl (hp 6 (by decide) _)) (va_z (m := 6) (fun j => hz 6 j (by decide))) (va_z (m := 6) (fun j => hj 6 j (by decide))) ?_)))
  refine pj_go (pj_D_le 0) (fun pc => pc == 12) 40 (pj_cT rfl (pj_Rz (L := [some (.ref 5)]) (st := []) (bc := 11) (bs := 1807) (zs_as rfl rfl) rfl rfl ?_))
  refine pj_go (pj_D_le 0) (fun pc => pc == 17) 40 (pj_cT rfl (pj_Rz (L := [some (.ref 5)]) (st := [.ref 7, .ref 5]) (bc := 10) (bs := 1799) (zs_ar rfl rfl rfl (hp 7 (by decide) _)) (va_z (m := 7) (fun j => hz 7 j (by decide))) (va_z (m := 7) (fun j => hj 7 j (by decide))) ?_))
  refine pj_go (pj_D_le 0) (fun pc => pc == 20) 40 (pj_cT rfl (pj_Rz (L := [some (.ref 5)]) (st := []) (bc := 10) (bs := 1799) (zs_as rfl rfl) rfl rfl ?_))
  refine pj_go (pj_D_le 0) (fun pc => pc == 25) 40 (pj_cT rfl (pj_Rz (L := [some (.ref 5)]) (st := [.ref 8, .ref 5]) (bc := 9) (bs := 1791) (zs_ar rfl rfl rfl (hp 8 (by decide) _)) (va_z (m := 8) (fun j => hz 8 j (by decide))) (va_z (m := 8) (fun j => hj 8 j (by decide))) ?_))
  refine pj_go (pj_D_le 0) (fun pc => pc == 28) 40 (pj_cT rfl (pj_Rz (L := [some (.ref 5)]) (st := []) (bc := 9) (bs := 1791) (zs_as rfl rfl) rfl rfl ?_))
  refine pj_go (pj_D_le 0) (fun pc => pc == 33) 40 (pj_cT rfl (pj_Rz (L := [some (.ref 5)]) (st := [.ref 9, .ref 5]) (bc := 8) (bs := 1784) (zs_ar rfl rfl rfl (hp 9 (by decide) _)) (va_z (m := 9) (fun j => hz 9 j (by decide))) (va_z (m := 9) (fun j => hj 9 j (by decide))) ?_))
  refine pj_go (pj_D_le 0) (fun pc => pc == 36) 40 (pj_cT rfl (pj_Rz (L := [some (.ref 5)]) (st := []) (bc := 8) (bs := 1784) (zs_as rfl rfl) rfl rfl ?_))
  refine pj_go (pj_D_le 0) (fun pc => pc == 41) 40 (pj_cT rfl (pj_Rz (L := [some (.ref 5)]) (st := [.ref 10, .ref 5]) (bc := 7) (bs := 1777) (zs_ar rfl rfl rfl (hp 10 (by decide) _)) (va_z (m := 10) (fun j => hz 10 j (by decide))) (va_z (m := 10) (fun j => hj 10 j (by decide))) ?_))
  refine pj_go (pj_D_le 0) (fun pc => pc == 44) 40 (pj_cT rfl (pj_Rz (L := [some (.ref 5)]) (st := []) (bc := 7) (bs := 1777) (zs_as rfl rfl) rfl rfl ?_))
  refine pj_go (pj_D_le 0) (fun pc => pc == 49) 40 (pj_cT rfl (pj_Rz (L := [some (.ref 5)]) (st := [.ref 11, .ref 5]) (bc := 6) (bs := 1770) (zs_ar rfl rfl rfl (hp 11 (by decide) _)) (va_z (m := 11) (fun j => hz 11 j (by decide))) (va_z (m := 11) (fun j => hj 11 j (by decide))) ?_))
  refine pj_go (pj_D_le 0) (fun pc => pc == 52) 40 (pj_cT rfl (pj_Rz (L := [some (.ref 5)]) (st := []) (bc := 6) (bs := 1770) (zs_as rfl rfl) rfl rfl ?_))
  refine pj_go (pj_D_le 0) (fun pc => pc == 57) 40 (pj_cT rfl (pj_Rz (L := [some (.ref 5)]) (st := [.ref 12, .ref 5]) (bc := 5) (bs := 1763) (zs_ar rfl rfl rfl (hp 12 (by decide) _)) (va_z (m := 12) (fun j => hz 12 j (by decide))) (va_z (m := 12) (fun j => hj 12 j (by decide))) ?_))
  refine pj_go (pj_D_le 0) (fun pc => pc == 60) 40 (pj_cT rfl (pj_Rz (L := [some (.ref 5)]) (st := []) (bc := 5) (bs := 1763) (zs_as rfl rfl) rfl rfl ?_))
  refine pj_go (pj_D_le 0) (fun pc => pc == 66) 40 (pj_cT rfl (pj_Rz (L := [some (.ref 5)]) (st := [.ref 13, .ref 5]) (bc := 4) (bs := 163) (zs_ar rfl rfl rfl (hp 13 (by decide) _)) (va_z (m := 13) (fun j => hz 13 j (by decide))) (va_z (m := 13) (fun j => hj 13 j (by decide))) ?_))
  refine pj_go (pj_D_le 0) (fun pc => pc == 69) 40 (pj_cT rfl (pj_Rz (L := [some (.ref 5)]) (st := []) (bc := 4) (bs := 163) (zs_as rfl rfl) rfl rfl ?_))
  refine pj_go (pj_D_le 0) (fun pc => pc == 73) 40 (pj_cT rfl (pj_Rz (L := [some (.ref 5)]) (st := [.ref 14, .ref 5]) (bc := 3) (bs := 160) (zs_ar rfl rfl rfl (hp 14 (by decide) _)) (va_z (m := 14) (fun j => hz 14 j (by decide))) (va_z (m := 14) (fun j => hj 14 j (by decide))) ?_))
  refine pj_go (pj_D_le 0) (fun pc => pc == 76) 40 (pj_cT rfl (pj_Rz (L := [some (.ref 5)]) (st := []) (bc := 3) (bs := 160) (zs_as rfl rfl) rfl rfl ?_))
  refine pj_go (pj_D_le 0) (fun pc => pc == 80) 40 (pj_cT rfl (pj_Rz (L := [some (.ref 5)]) (st := [.ref 15, .ref 5]) (bc := 2) (bs := 157) (zs_ar rfl rfl rfl (hp 15 (by decide) _)) (va_z (m := 15) (fun j => hz 15 j (by decide))) (va_z (m := 15) (fun j => hj 15 j (by decide))) ?_))
  refine pj_go (pj_D_le 0) (fun pc => pc == 83) 40 (pj_cT rfl (pj_Rz (L := [some (.ref 5)]) (st := []) (bc := 2) (bs := 157) (zs_as rfl rfl) rfl rfl ?_))
  refine pj_go (pj_D_le 0) (fun pc => pc == 88) 40 (pj_cT rfl (pj_Rz (L := [some (.ref 5)]) (st := [.ref 16, .ref 5]) (bc := 1) (bs := 128) (zs_ar rfl rfl rfl (hp 16 (by decide) _)) (va_z (m := 16) (fun j => hz 16 j (by decide))) (va_z (m := 16) (fun j => hj 16 j (by decide))) ?_))
  refine pj_go (pj_D_le 0) (fun pc => pc == 91) 40 (pj_cT rfl (pj_Rz (L := [some (.ref 5)]) (st := []) (bc := 1) (bs := 128) (zs_as rfl rfl) rfl rfl ?_))
  refine pj_go (pj_D_le 0) (fun pc => pc == 97) 40 (pj_cT rfl (pj_Rz (L := [some (.ref 5)]) (st := [.ref 17, .ref 5]) (bc := 0) (bs := 0) (zs_ar rfl rfl rfl (hp 17 (by decide) _)) (va_z (m := 17) (fun j => hz 17 j (by decide))) (va_z (m := 17) (fun j => hj 17 j (by decide))) ?_))
  refine pj_go (pj_D_le 0) (fun pc => pc == 100) 40 (pj_cT rfl (pj_Rz (L := [some (.ref 5)]) (st := []) (bc := 0) (bs := 0) (zs_as rfl rfl) rfl rfl ?_))
  refine pj_go (pj_D_le 0) (fun pc => pc == 105) 40 (pj_cT rfl (pj_Rz (L := [some (.ref 5)]) (st := []) (bc := 0) (bs := 0) rfl (pj_u_z (hz 5 12 (by decide))) rfl ?_))
  refine pj_go (pj_D_le 0) (fun pc => pc == 110) 40 (pj_cT rfl (pj_Rz (L := [some (.ref 5)]) (st := []) (bc := 0) (bs := 0) rfl (pj_u_z (hz 5 13 (by decide))) rfl ?_))
  refine pj_go (pj_D_le 0) (fun pc => pc == 115) 40 (pj_cT rfl (pj_Rz (L := [some (.ref 5)]) (st := []) (bc := 0) (bs := 0) rfl (pj_u_z (hz 5 14 (by decide))) rfl ?_))
  refine pj_go (pj_D_le 0) (fun pc => pc == 120) 40 (pj_cT rfl (pj_Rz (L := [some (.ref 5)]) (st := []) (bc := 0) (bs := 0) rfl (pj_u_z (hz 5 15 (by decide))) rfl ?_))
  refine pj_go (pj_D_le 0) (fun pc => pc == 125) 40 (pj_cT rfl (pj_Rz (L := [some (.ref 5)]) (st := []) (bc := 0) (bs := 0) rfl (pj_u_z (hz 5 16 (by decide))) rfl ?_))
  refine pj_go (pj_D_le 0) (fun _ => false) 40 (pj_cT rfl ?_)
  show Q none ((zs n 18 ((5, 4095) :: D)), I, J)
  rw [zs_pp (a := 5) rfl (zlk_n hD (Nat.le_refl _))]
  exact q
/-- Works.<init> -/
theorem k98_18 (hh : 1 ≤ h) {D : List (Nat × Nat)} (hD : zle D 18 = true) (hz : ∀ c j, 18 ≤ c → I c j = 0) (hj : ∀ c j, 18 ≤ c → J c j = 0) (q : Q none (zs n 31 D, I, J)) : pj_D h 98 [.ref 18] (zs n 19 ((18, 0) :: D), I, J) Q := by
  have hp : ∀ m, 18 < m → ∀ b, zlk ((18, b) :: D) m = none := fun m hm b => by
    show (bif Nat.beq m 18 then some b else zlk D m) = none
    rw [be_f (by omega), zlk_n hD (by omega)]; rfl
  refine pj_ent (g := 0) hh (t := mt_98) rfl rfl ?_
  show pj_R (pj_D 0) ta mc_98 false Q 0 [some (.ref 18)] [] (zs n 19 ((18, 0) :: D)) I J 12 1815
  refine pj_go (pj_D_le 0) (fun pc => pc == 9) 40 (pj_cT rfl (pj_cT rfl (pj_Rz (L := [some (.ref 18)]) (st := [.ref 19, .ref 18]) (bc := 11) (bs := 1807) (zs_ar rfl rfl rfl (hp 19 (by decide) _)) (va_z (m := 19) (fun j => hz 19 j (by decide))) (va_z (m := 19) (fun j => hj 19 j (by decide))) ?_)))
  refine pj_go (pj_D_le 0) (fun pc => pc == 12) 40 (pj_cT rfl (pj_Rz (L := [some (.ref 18)]) (st := []) (bc := 11) (bs := 1807) (zs_as rfl rfl) rfl rfl ?_))
  refine pj_go (pj_D_le 0) (fun pc => pc == 17) 40 (pj_cT rfl (pj_Rz (L := [some (.ref 18)]) (st := [.ref 20, .ref 18]) (bc := 10) (bs := 1799) (zs_ar rfl rfl rfl (hp 20 (by decide) _)) (va_z (m := 20) (fun j => hz 20 j (by decide))) (va_z (m := 20) (fun j => hj 20 j (by decide))) ?_))
  refine pj_go (pj_D_le 0) (fun pc => pc == 20) 40 (pj_cT rfl (pj_Rz (L := [some (.ref 18)]) (st := []) (bc := 10) (bs := 1799) (zs_as rfl rfl) rfl rfl ?_))
  refine pj_go (pj_D_le 0) (fun pc => pc == 25) 40 (pj_cT rfl (pj_Rz (L := [some (.ref 18)]) (st := [.ref 21, .ref 18]) (bc := 9) (bs := 1791) (zs_ar rfl rfl rfl (hp 21 (by decide) _)) (va_z (m := 21) (fun j => hz 21 j (by decide))) (va_z (m := 21) (fun j => hj 21 j (by decide))) ?_))
  refine pj_go (pj_D_le 0) (fun pc => pc == 28) 40 (pj_cT rfl (pj_Rz (L := [some (.ref 18)]) (st := []) (bc := 9) (bs := 1791) (zs_as rfl rfl) rfl rfl ?_))
  refine pj_go (pj_D_le 0) (fun pc => pc == 33) 40 (pj_cT rfl (pj_Rz (L := [some (.ref 18)]) (st := [.ref 22, .ref 18]) (bc := 8) (bs := 1784) (zs_ar rfl rfl rfl (hp 22 (by decide) _)) (va_z (m := 22) (fun j => hz 22 j (by decide))) (va_z (m := 22) (fun j => hj 22 j (by decide))) ?_))
  refine pj_go (pj_D_le 0) (fun pc => pc == 36) 40 (pj_cT rfl (pj_Rz (L := [some (.ref 18)]) (st := []) (bc := 8) (bs := 1784) (zs_as rfl rfl) rfl rfl ?_))
  refine pj_go (pj_D_le 0) (fun pc => pc == 41) 40 (pj_cT rfl (pj_Rz (L := [some (.ref 18)]) (st := [.ref 23, .ref 18]) (bc := 7) (bs := 1777) (zs_ar rfl rfl rfl (hp 23 (by decide) _)) (va_z (m := 23) (fun j => hz 23 j (by decide))) (va_z (m := 23) (fun j => hj 23 j (by decide))) ?_))
  refine pj_go (pj_D_le 0) (fun pc => pc == 44) 40 (pj_cT rfl (pj_Rz (L := [some (.ref 18)]) (st := []) (bc := 7) (bs := 1777) (zs_as rfl rfl) rfl rfl ?_))
  refine pj_go (pj_D_le 0) (fun pc => pc == 49) 40 (pj_cT rfl (pj_Rz (L := [some (.ref 18)]) (st := [.ref 24, .ref 18]) (bc := 6) (bs := 1770) (zs_ar rfl rfl rfl (hp 24 (by decide) _)) (va_z (m := 24) (fun j => hz 24 j (by decide))) (va_z (m := 24) (fun j => hj 24 j (by decide))) ?_))
  refine pj_go (pj_D_le 0) (fun pc => pc == 52) 40 (pj_cT rfl (pj_Rz (L := [some (.ref 18)]) (st := []) (bc := 6) (bs := 1770) (zs_as rfl rfl) rfl rfl ?_))
  refine pj_go (pj_D_le 0) (fun pc => pc == 57) 40 (pj_cT rfl (pj_Rz (L := [some (.ref 18)]) (st := [.ref 25, .ref 18]) (bc := 5) (bs := 1763) (zs_ar rfl rfl rfl (hp 25 (by decide) _)) (va_z (m := 25) (fun j => hz 25 j (by decide))) (va_z (m := 25) (fun j => hj 25 j (by decide))) ?_))
  refine pj_go (pj_D_le 0) (fun pc => pc == 60) 40 (pj_cT rfl (pj_Rz (L := [some (.ref 18)]) (st := []) (bc := 5) (bs := 1763) (zs_as rfl rfl) rfl rfl ?_))
  refine pj_go (pj_D_le 0) (fun pc => pc == 66) 40 (pj_cT rfl (pj_Rz (L := [some (.ref 18)]) (st := [.ref 26, .ref 18]) (bc := 4) (bs := 163) (zs_ar rfl rfl rfl (hp 26 (by decide) _)) (va_z (m := 26) (fun j => hz 26 j (by decide))) (va_z (m := 26) (fun j => hj 26 j (by decide))) ?_))
  refine pj_go (pj_D_le 0) (fun pc => pc == 69) 40 (pj_cT rfl (pj_Rz (L := [some (.ref 18)]) (st := []) (bc := 4) (bs := 163) (zs_as rfl rfl) rfl rfl ?_))
  refine pj_go (pj_D_le 0) (fun pc => pc == 73) 40 (pj_cT rfl (pj_Rz (L := [some (.ref 18)]) (st := [.ref 27, .ref 18]) (bc := 3) (bs := 160) (zs_ar rfl rfl rfl (hp 27 (by decide) _)) (va_z (m := 27) (fun j => hz 27 j (by decide))) (va_z (m := 27) (fun j => hj 27 j (by decide))) ?_))
  refine pj_go (pj_D_le 0) (fun pc => pc == 76) 40 (pj_cT rfl (pj_Rz (L := [some (.ref 18)]) (st := []) (bc := 3) (bs := 160) (zs_as rfl rfl) rfl rfl ?_))
  refine pj_go (pj_D_le 0) (fun pc => pc == 80) 40 (pj_cT rfl (pj_Rz (L := [some (.ref 18)]) (st := [.ref 28, .ref 18]) (bc := 2) (bs := 157) (zs_ar rfl rfl rfl (hp 28 (by decide) _)) (va_z (m := 28) (fun j => hz 28 j (by decide))) (va_z (m := 28) (fun j => hj 28 j (by decide))) ?_))
  refine pj_go (pj_D_le 0) (fun pc => pc == 83) 40 (pj_cT rfl (pj_Rz (L := [some (.ref 18)]) (st := []) (bc := 2) (bs := 157) (zs_as rfl rfl) rfl rfl ?_))
  refine pj_go (pj_D_le 0) (fun pc => pc == 88) 40 (pj_cT rfl (pj_Rz (L := [some (.ref 18)]) (st := [.ref 29, .ref 18]) (bc := 1) (bs := 128) (zs_ar rfl rfl rfl (hp 29 (by decide) _)) (va_z (m := 29) (fun j => hz 29 j (by decide))) (va_z (m := 29) (fun j => hj 29 j (by decide))) ?_))
  refine pj_go (pj_D_le 0) (fun pc => pc == 91) 40 (pj_cT rfl (pj_Rz (L := [some (.ref 18)]) (st := []) (bc := 1) (bs := 128) (zs_as rfl rfl) rfl rfl ?_))
  refine pj_go (pj_D_le 0) (fun pc => pc == 97) 40 (pj_cT rfl (pj_Rz (L := [some (.ref 18)]) (st := [.ref 30, .ref 18]) (bc := 0) (bs := 0) (zs_ar rfl rfl rfl (hp 30 (by decide) _)) (va_z (m := 30) (fun j => hz 30 j (by decide))) (va_z (m := 30) (fun j => hj 30 j (by decide))) ?_))
  refine pj_go (pj_D_le 0) (fun pc => pc == 100) 40 (pj_cT rfl (pj_Rz (L := [some (.ref 18)]) (st := []) (bc := 0) (bs := 0) (zs_as rfl rfl) rfl rfl ?_))
  refine pj_go (pj_D_le 0) (fun pc => pc == 105) 40 (pj_cT rfl (pj_Rz (L := [some (.ref 18)]) (st := []) (bc := 0) (bs := 0) rfl (pj_u_z (hz 18 12 (by decide))) rfl ?_))
  refine pj_go (pj_D_le 0) (fun pc => pc == 110) 40 (pj_cT rfl (pj_Rz (L := [some (.ref 18)]) (st := []) (bc := 0) (bs := 0) rfl (pj_u_z (hz 18 13 (by decide))) rfl ?_))
  refine pj_go (pj_D_le 0) (fun pc => pc == 115) 40 (pj_cT rfl (pj_Rz (L := [some (.ref 18)]) (st := []) (bc := 0) (bs := 0) rfl (pj_u_z (hz 18 14 (by decide))) rfl ?_))
  refine pj_go (pj_D_le 0) (fun pc => pc == 120) 40 (pj_cT rfl (pj_Rz (L := [some (.ref 18)]) (st := []) (bc := 0) (bs := 0) rfl (pj_u_z (hz 18 15 (by decide))) rfl ?_))
  refine pj_go (pj_D_le 0) (fun pc => pc == 125) 40 (pj_cT rfl (pj_Rz (L := [some (.ref 18)]) (st := []) (bc := 0) (bs := 0) rfl (pj_u_z (hz 18 16 (by decide))) rfl ?_))
  refine pj_go (pj_D_le 0) (fun _ => false) 40 (pj_cT rfl ?_)
  show Q none ((zs n 31 ((18, 4095) :: D)), I, J)
  rw [zs_pp (a := 18) rfl (zlk_n hD (Nat.le_refl _))]
  exact q
/-- Course.<init> -/
theorem k1_34 (hh : 1 ≤ h) {D : List (Nat × Nat)} (hD : zle D 34 = true) (hz : ∀ c j, 34 ≤ c → I c j = 0) (hj : ∀ c j, 34 ≤ c → J c j = 0) (q : Q none (zs n 35 D, I, J)) : pj_D h 1 [.ref 34, .ref 5] (zs n 35 ((34, 0) :: D), I, J) Q := by
  have hp : ∀ m, 34 < m → ∀ b, zlk ((34, b) :: D) m = none := fun m hm b => by
    show (bif Nat.beq m 34 then some b else zlk D m) = none
    rw [be_f (by omega), zlk_n hD (by omega)]; rfl
  refine pj_ent (g := 0) hh (t := mt_1) rfl rfl ?_
  show pj_R (pj_D 0) ta mc_1 false Q 0 [some (.ref 34), some (.ref 5)] [] (zs n 35 ((34, 0) :: D)) I J 0 0
  refine pj_go (pj_D_le 0) (fun pc => pc == 9) 40 (pj_cT rfl (pj_cT rfl (pj_Rz (L := [some (.ref 34), some (.ref 5)]) (st := []) (bc := 0) (bs := 0) rfl (pj_u_z (hz 34 1 (by decide))) rfl ?_)))
  refine pj_go (pj_D_le 0) (fun pc => pc == 14) 40 (pj_cT rfl (pj_Rz (L := [some (.ref 34), some (.ref 5)]) (st := []) (bc := 0) (bs := 0) rfl (pj_u_z (hz 34 2 (by decide))) rfl ?_))
  refine pj_go (pj_D_le 0) (fun pc => pc == 19) 40 (pj_cT rfl (pj_Rz (L := [some (.ref 34), some (.ref 5)]) (st := []) (bc := 0) (bs := 0) (zs_as rfl rfl) rfl rfl ?_))
  refine pj_go (pj_D_le 0) (fun _ => false) 40 (pj_cT rfl ?_)
  show Q none ((zs n 35 ((34, 1) :: D)), I, J)
  rw [zs_pp (a := 34) rfl (zlk_n hD (Nat.le_refl _))]
  exact q
/-- Picture.<init> -/
theorem k28_272 (hh : 1 ≤ h) {D : List (Nat × Nat)} (hD : zle D 272 = true) (hz : ∀ c j, 272 ≤ c → I c j = 0) (hj : ∀ c j, 272 ≤ c → J c j = 0) (q : Q none (zs n 274 D, I, J)) : pj_D h 28 [.ref 272, .ref 5] (zs n 273 ((272, 0) :: D), I, J) Q := by
  have hp : ∀ m, 272 < m → ∀ b, zlk ((272, b) :: D) m = none := fun m hm b => by
    show (bif Nat.beq m 272 then some b else zlk D m) = none
    rw [be_f (by omega), zlk_n hD (by omega)]; rfl
  refine pj_ent (g := 0) hh (t := mt_28) rfl rfl ?_
  show pj_R (pj_D 0) ta mc_28 false Q 0 [some (.ref 272), some (.ref 5)] [] (zs n 273 ((272, 0) :: D)) I J 1 61
  refine pj_go (pj_D_le 0) (fun pc => pc == 9) 40 (pj_cT rfl (pj_cT rfl (pj_Rz (L := [some (.ref 272), some (.ref 5)]) (st := [.ref 273, .ref 272]) (bc := 0) (bs := 0) (zs_ar rfl rfl rfl (hp 273 (by decide) _)) (va_z (m := 273) (fun j => hz 273 j (by decide))) (va_z (m := 273) (fun j => hj 273 j (by decide))) ?_)))
  refine pj_go (pj_D_le 0) (fun pc => pc == 12) 40 (pj_cT rfl (pj_Rz (L := [some (.ref 272), some (.ref 5)]) (st := []) (bc := 0) (bs := 0) (zs_as rfl rfl) rfl rfl ?_))
  refine pj_go (pj_D_le 0) (fun pc => pc == 17) 40 (pj_cT rfl (pj_Rz (L := [some (.ref 272), some (.ref 5)]) (st := []) (bc := 0) (bs := 0) rfl (pj_u_z (hz 272 2 (by decide))) rfl ?_))
  refine pj_go (pj_D_le 0) (fun pc => pc == 22) 40 (pj_cT rfl (pj_Rz (L := [some (.ref 272), some (.ref 5)]) (st := []) (bc := 0) (bs := 0) (zs_as rfl rfl) rfl rfl ?_))
  refine pj_go (pj_D_le 0) (fun _ => false) 40 (pj_cT rfl ?_)
  show Q none ((zs n 274 ((272, 3) :: D)), I, J)
  rw [zs_pp (a := 272) rfl (zlk_n hD (Nat.le_refl _))]
  exact q
end PCa
