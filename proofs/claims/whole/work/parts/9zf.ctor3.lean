/-! constructors of the class: the history -/
section PCd
variable {n h : Nat} {Q : pj_K} {I : Nat → Nat → Int32} {J : Nat → Nat → Int64}
/-- History.<init> -/
theorem k8_59 (hh : 2 ≤ h) {D : List (Nat × Nat)} (hD : zle D 59 = true) (hz : ∀ c j, 59 ≤ c → I c j = 0) (hj : ∀ c j, 59 ≤ c → J c j = 0) (q : Q none (zs n 221 D, I, J)) : pj_D h 8 [.ref 59] (zs n 60 ((59, 0) :: D), I, J) Q := by
  have hp : ∀ m, 59 < m → ∀ b, zlk ((59, b) :: D) m = none := fun m hm b => by
    show (bif Nat.beq m 59 then some b else zlk D m) = none
    rw [be_f (by omega), zlk_n hD (by omega)]; rfl
  refine pj_ent (g := 1) hh (t := mt_8) rfl rfl ?_
  show pj_R (pj_D 1) ta mc_8 false Q 0 [some (.ref 59), none] [] (zs n 60 ((59, 0) :: D)) I J 161 1220
  refine pj_go (pj_D_le 1) (fun pc => pc == 10) 40 (pj_cT rfl (pj_cT rfl (pj_Rz (L := [some (.ref 59), none]) (st := [.ref 60, .ref 59]) (bc := 160) (bs := 1200) ((zs_op rfl rfl).trans (zs_sw (by decide))) (va_z (m := 60) (fun j => hz 60 j (by decide))) (va_z (m := 60) (fun j => hj 60 j (by decide))) ?_)))
  refine pj_go (pj_D_le 1) (fun pc => pc == 13) 40 (pj_cT rfl (pj_Rz (L := [some (.ref 59), none]) (st := []) (bc := 160) (bs := 1200) (zs_as rfl rfl) rfl rfl ?_))
  refine pj_go (pj_D_le 1) (fun pc => pc == 18) 40 (pj_cT rfl (pj_Rz (L := [some (.ref 59), none]) (st := []) (bc := 160) (bs := 1200) rfl (pj_u_z (hz 59 1 (by decide))) rfl ?_))
  refine pj_go (pj_D_le 1) (fun pc => pc == 23) 40 (pj_cT rfl (pj_Rz (L := [some (.ref 59), none]) (st := []) (bc := 160) (bs := 1200) rfl (pj_u_z (hz 59 2 (by decide))) rfl ?_))
  refine pj_Rz (zs_sw (by decide)) rfl rfl ?_
  refine pj_go (pj_D_le 1) (fun pc => pc == 31) 40 (And.intro (fun c => absurd c (by decide)) (fun _ => (pj_Rz (L := [some (.ref 59), some (.int 0)]) (st := []) (bc := 160) (bs := 1200) rfl rfl rfl ?_)))
  refine pj_go (pj_D_le 1) (fun pc => pc == 39) 40 (pj_cT rfl (pj_cT rfl (pj_cT rfl (pj_Rz (L := [some (.ref 59), some (.int 0)]) (st := [.ref 61, .int 0, .ref 60]) (bc := 159) (bs := 1191) (zs_op rfl rfl) (va_z (m := 61) (fun j => hz 61 j (by decide))) (va_z (m := 61) (fun j => hj 61 j (by decide))) ?_))))
  refine pj_go (pj_D_le 1) (fun pc => pc == 40) 40 (pj_Rz (L := [some (.ref 59), some (.int 0)]) (st := [.ref 61, .ref 61, .int 0, .ref 60]) (bc := 159) (bs := 1191) rfl rfl rfl ?_)
  refine pj_Rcs (pj_D_le 1) rfl rfl rfl rfl rfl rfl rfl rfl ?_
  refine k70 (by decide) (a := 61) (zst_h 0 (by decide)) (zle_d (zle_d (zle_m hD (by decide)) (by decide)) (by decide)) (fun c j hc => hz c j (by omega)) (fun c j hc => hj c j (by omega)) ?_
  refine ⟨rfl, ?_⟩
  show pj_R (pj_D 1) ta mc_8 false Q 43 [some (.ref 59), some (.int 0)] [.ref 61, .int 0, .ref 60] (zs n 69 ((60, 0) :: ((59, 1) :: D))) I J 152 1140
  refine pj_go (pj_D_le 1) (fun pc => pc == 44) 40 (pj_cT rfl (And.intro (pj_in 0 20 rfl) (pj_Rz (Z' := (zs n 69 ((60, 1) :: ((59, 1) :: D)))) (L := [some (.ref 59), some (.int 0)]) (st := []) (bc := 152) (bs := 1140) (zs_as rfl rfl) rfl rfl ?_)))
  refine pj_go (pj_D_le 1) (fun pc => pc == 25) 40 (pj_Rz (L := [some (.ref 59), some (.int 1)]) (st := []) (bc := 152) (bs := 1140) rfl rfl rfl ?_)
  refine pj_go (pj_D_le 1) (fun pc => pc == 31) 40 (And.intro (fun c => absurd c (by decide)) (fun _ => (pj_Rz (L := [some (.ref 59), some (.int 1)]) (st := []) (bc := 152) (bs := 1140) rfl rfl rfl ?_)))
  refine pj_go (pj_D_le 1) (fun pc => pc == 39) 40 (pj_cT rfl (pj_cT rfl (pj_cT rfl (pj_Rz (L := [some (.ref 59), some (.int 1)]) (st := [.ref 69, .int 1, .ref 60]) (bc := 151) (bs := 1131) (zs_op rfl rfl) (va_z (m := 69) (fun j => hz 69 j (by decide))) (va_z (m := 69) (fun j => hj 69 j (by decide))) ?_))))
  refine pj_go (pj_D_le 1) (fun pc => pc == 40) 40 (pj_Rz (L := [some (.ref 59), some (.int 1)]) (st := [.ref 69, .ref 69, .int 1, .ref 60]) (bc := 151) (bs := 1131) rfl rfl rfl ?_)
  refine pj_Rcs (pj_D_le 1) rfl rfl rfl rfl rfl rfl rfl rfl ?_
  refine k70 (by decide) (a := 69) (zst_h 1 (by decide)) (zle_d (zle_d (zle_m hD (by decide)) (by decide)) (by decide)) (fun c j hc => hz c j (by omega)) (fun c j hc => hj c j (by omega)) ?_
  refine ⟨rfl, ?_⟩
  show pj_R (pj_D 1) ta mc_8 false Q 43 [some (.ref 59), some (.int 1)] [.ref 69, .int 1, .ref 60] (zs n 77 ((60, 1) :: ((59, 1) :: D))) I J 144 1080
  refine pj_go (pj_D_le 1) (fun pc => pc == 44) 40 (pj_cT rfl (And.intro (pj_in 1 20 rfl) (pj_Rz (Z' := (zs n 77 ((60, 3) :: ((59, 1) :: D)))) (L := [some (.ref 59), some (.int 1)]) (st := []) (bc := 144) (bs := 1080) (zs_as rfl rfl) rfl rfl ?_)))
  refine pj_go (pj_D_le 1) (fun pc => pc == 25) 40 (pj_Rz (L := [some (.ref 59), some (.int 2)]) (st := []) (bc := 144) (bs := 1080) rfl rfl rfl ?_)
  refine pj_go (pj_D_le 1) (fun pc => pc == 31) 40 (And.intro (fun c => absurd c (by decide)) (fun _ => (pj_Rz (L := [some (.ref 59), some (.int 2)]) (st := []) (bc := 144) (bs := 1080) rfl rfl rfl ?_)))
  refine pj_go (pj_D_le 1) (fun pc => pc == 39) 40 (pj_cT rfl (pj_cT rfl (pj_cT rfl (pj_Rz (L := [some (.ref 59), some (.int 2)]) (st := [.ref 77, .int 2, .ref 60]) (bc := 143) (bs := 1071) (zs_op rfl rfl) (va_z (m := 77) (fun j => hz 77 j (by decide))) (va_z (m := 77) (fun j => hj 77 j (by decide))) ?_))))
  refine pj_go (pj_D_le 1) (fun pc => pc == 40) 40 (pj_Rz (L := [some (.ref 59), some (.int 2)]) (st := [.ref 77, .ref 77, .int 2, .ref 60]) (bc := 143) (bs := 1071) rfl rfl rfl ?_)
  refine pj_Rcs (pj_D_le 1) rfl rfl rfl rfl rfl rfl rfl rfl ?_
  refine k70 (by decide) (a := 77) (zst_h 2 (by decide)) (zle_d (zle_d (zle_m hD (by decide)) (by decide)) (by decide)) (fun c j hc => hz c j (by omega)) (fun c j hc => hj c j (by omega)) ?_
  refine ⟨rfl, ?_⟩
  show pj_R (pj_D 1) ta mc_8 false Q 43 [some (.ref 59), some (.int 2)] [.ref 77, .int 2, .ref 60] (zs n 85 ((60, 3) :: ((59, 1) :: D))) I J 136 1020
  refine pj_go (pj_D_le 1) (fun pc => pc == 44) 40 (pj_cT rfl (And.intro (pj_in 2 20 rfl) (pj_Rz (Z' := (zs n 85 ((60, 7) :: ((59, 1) :: D)))) (L := [some (.ref 59), some (.int 2)]) (st := []) (bc := 136) (bs := 1020) (zs_as rfl rfl) rfl rfl ?_)))
  refine pj_go (pj_D_le 1) (fun pc => pc == 25) 40 (pj_Rz (L := [some (.ref 59), some (.int 3)]) (st := []) (bc := 136) (bs := 1020) rfl rfl rfl ?_)
  refine pj_go (pj_D_le 1) (fun pc => pc == 31) 40 (And.intro (fun c => absurd c (by decide)) (fun _ => (pj_Rz (L := [some (.ref 59), some (.int 3)]) (st := []) (bc := 136) (bs := 1020) rfl rfl rfl ?_)))
  refine pj_go (pj_D_le 1) (fun pc => pc == 39) 40 (pj_cT rfl (pj_cT rfl (pj_cT rfl (pj_Rz (L := [some (.ref 59), some (.int 3)]) (st := [.ref 85, .int 3, .ref 60]) (bc := 135) (bs := 1011) (zs_op rfl rfl) (va_z (m := 85) (fun j => hz 85 j (by decide))) (va_z (m := 85) (fun j => hj 85 j (by decide))) ?_))))
  refine pj_go (pj_D_le 1) (fun pc => pc == 40) 40 (pj_Rz (L := [some (.ref 59), some (.int 3)]) (st := [.ref 85, .ref 85, .int 3, .ref 60]) (bc := 135) (bs := 1011) rfl rfl rfl ?_)
  refine pj_Rcs (pj_D_le 1) rfl rfl rfl rfl rfl rfl rfl rfl ?_
  refine k70 (by decide) (a := 85) (zst_h 3 (by decide)) (zle_d (zle_d (zle_m hD (by decide)) (by decide)) (by decide)) (fun c j hc => hz c j (by omega)) (fun c j hc => hj c j (by omega)) ?_
  refine ⟨rfl, ?_⟩
  show pj_R (pj_D 1) ta mc_8 false Q 43 [some (.ref 59), some (.int 3)] [.ref 85, .int 3, .ref 60] (zs n 93 ((60, 7) :: ((59, 1) :: D))) I J 128 960
  refine pj_go (pj_D_le 1) (fun pc => pc == 44) 40 (pj_cT rfl (And.intro (pj_in 3 20 rfl) (pj_Rz (Z' := (zs n 93 ((60, 15) :: ((59, 1) :: D)))) (L := [some (.ref 59), some (.int 3)]) (st := []) (bc := 128) (bs := 960) (zs_as rfl rfl) rfl rfl ?_)))
  refine pj_go (pj_D_le 1) (fun pc => pc == 25) 40 (pj_Rz (L := [some (.ref 59), some (.int 4)]) (st := []) (bc := 128) (bs := 960) rfl rfl rfl ?_)
  refine pj_go (pj_D_le 1) (fun pc => pc == 31) 40 (And.intro (fun c => absurd c (by decide)) (fun _ => (pj_Rz (L := [some (.ref 59), some (.int 4)]) (st := []) (bc := 128) (bs := 960) rfl rfl rfl ?_)))
  refine pj_go (pj_D_le 1) (fun pc => pc == 39) 40 (pj_cT rfl (pj_cT rfl (pj_cT rfl (pj_Rz (L := [some (.ref 59), some (.int 4)]) (st := [.ref 93, .int 4, .ref 60]) (bc := 127) (bs := 951) (zs_op rfl rfl) (va_z (m := 93) (fun j => hz 93 j (by decide))) (va_z (m := 93) (fun j => hj 93 j (by decide))) ?_))))
  refine pj_go (pj_D_le 1) (fun pc => pc == 40) 40 (pj_Rz (L := [some (.ref 59), some (.int 4)]) (st := [.ref 93, .ref 93, .int 4, .ref 60]) (bc := 127) (bs := 951) rfl rfl rfl ?_)
  refine pj_Rcs (pj_D_le 1) rfl rfl rfl rfl rfl rfl rfl rfl ?_
  refine k70 (by decide) (a := 93) (zst_h 4 (by decide)) (zle_d (zle_d (zle_m hD (by decide)) (by decide)) (by decide)) (fun c j hc => hz c j (by omega)) (fun c j hc => hj c j (by omega)) ?_
  refine ⟨rfl, ?_⟩
  show pj_R (pj_D 1) ta mc_8 false Q 43 [some (.ref 59), some (.int 4)] [.ref 93, .int 4, .ref 60] (zs n 101 ((60, 15) :: ((59, 1) :: D))) I J 120 900
  refine pj_go (pj_D_le 1) (fun pc => pc == 44) 40 (pj_cT rfl (And.intro (pj_in 4 20 rfl) (pj_Rz (Z' := (zs n 101 ((60, 31) :: ((59, 1) :: D)))) (L := [some (.ref 59), some (.int 4)]) (st := []) (bc := 120) (bs := 900) (zs_as rfl rfl) rfl rfl ?_)))
  refine pj_go (pj_D_le 1) (fun pc => pc == 25) 40 (pj_Rz (L := [some (.ref 59), some (.int 5)]) (st := []) (bc := 120) (bs := 900) rfl rfl rfl ?_)
  refine pj_go (pj_D_le 1) (fun pc => pc == 31) 40 (And.intro (fun c => absurd c (by decide)) (fun _ => (pj_Rz (L := [some (.ref 59), some (.int 5)]) (st := []) (bc := 120) (bs := 900) rfl rfl rfl ?_)))
  refine pj_go (pj_D_le 1) (fun pc => pc == 39) 40 (pj_cT rfl (pj_cT rfl (pj_cT rfl (pj_Rz (L := [some (.ref 59), some (.int 5)]) (st := [.ref 101, .int 5, .ref 60]) (bc := 119) (bs := 891) (zs_op rfl rfl) (va_z (m := 101) (fun j => hz 101 j (by decide))) (va_z (m := 101) (fun j => hj 101 j (by decide))) ?_))))
  refine pj_go (pj_D_le 1) (fun pc => pc == 40) 40 (pj_Rz (L := [some (.ref 59), some (.int 5)]) (st := [.ref 101, .ref 101, .int 5, .ref 60]) (bc := 119) (bs := 891) rfl rfl rfl ?_)
  refine pj_Rcs (pj_D_le 1) rfl rfl rfl rfl rfl rfl rfl rfl ?_
  refine k70 (by decide) (a := 101) (zst_h 5 (by decide)) (zle_d (zle_d (zle_m hD (by decide)) (by decide)) (by decide)) (fun c j hc => hz c j (by omega)) (fun c j hc => hj c j (by omega)) ?_
  refine ⟨rfl, ?_⟩
  show pj_R (pj_D 1) ta mc_8 false Q 43 [some (.ref 59), some (.int 5)] [.ref 101, .int 5, .ref 60] (zs n 109 ((60, 31) :: ((59, 1) :: D))) I J 112 840
  refine pj_go (pj_D_le 1) (fun pc => pc == 44) 40 (pj_cT rfl (And.intro (pj_in 5 20 rfl) (pj_Rz (Z' := (zs n 109 ((60, 63) :: ((59, 1) :: D)))) (L := [some (.ref 59), some (.int 5)]) (st := []) (bc := 112) (bs := 840) (zs_as rfl rfl) rfl rfl ?_)))
  refine pj_go (pj_D_le 1) (fun pc => pc == 25) 40 (pj_Rz (L := [some (.ref 59), some (.int 6)]) (st := []) (bc := 112) (bs := 840) rfl rfl rfl ?_)
  refine pj_go (pj_D_le 1) (fun pc => pc == 31) 40 (And.intro (fun c => absurd c (by decide)) (fun _ => (pj_Rz (L := [some (.ref 59), some (.int 6)]) (st := []) (bc := 112) (bs := 840) rfl rfl rfl ?_)))
  refine pj_go (pj_D_le 1) (fun pc => pc == 39) 40 (pj_cT rfl (pj_cT rfl (pj_cT rfl (pj_Rz (L := [some (.ref 59), some (.int 6)]) (st := [.ref 109, .int 6, .ref 60]) (bc := 111) (bs := 831) (zs_op rfl rfl) (va_z (m := 109) (fun j => hz 109 j (by decide))) (va_z (m := 109) (fun j => hj 109 j (by decide))) ?_))))
  refine pj_go (pj_D_le 1) (fun pc => pc == 40) 40 (pj_Rz (L := [some (.ref 59), some (.int 6)]) (st := [.ref 109, .ref 109, .int 6, .ref 60]) (bc := 111) (bs := 831) rfl rfl rfl ?_)
  refine pj_Rcs (pj_D_le 1) rfl rfl rfl rfl rfl rfl rfl rfl ?_
  refine k70 (by decide) (a := 109) (zst_h 6 (by decide)) (zle_d (zle_d (zle_m hD (by decide)) (by decide)) (by decide)) (fun c j hc => hz c j (by omega)) (fun c j hc => hj c j (by omega)) ?_
  refine ⟨rfl, ?_⟩
  show pj_R (pj_D 1) ta mc_8 false Q 43 [some (.ref 59), some (.int 6)] [.ref 109, .int 6, .ref 60] (zs n 117 ((60, 63) :: ((59, 1) :: D))) I J 104 780
  refine pj_go (pj_D_le 1) (fun pc => pc == 44) 40 (pj_cT rfl (And.intro (pj_in 6 20 rfl) (pj_Rz (Z' := (zs n 117 ((60, 127) :: ((59, 1) :: D)))) (L := [some (.ref 59), some (.int 6)]) (st := []) (bc := 104) (bs := 780) (zs_as rfl rfl) rfl rfl ?_)))
  refine pj_go (pj_D_le 1) (fun pc => pc == 25) 40 (pj_Rz (L := [some (.ref 59), some (.int 7)]) (st := []) (bc := 104) (bs := 780) rfl rfl rfl ?_)
  refine pj_go (pj_D_le 1) (fun pc => pc == 31) 40 (And.intro (fun c => absurd c (by decide)) (fun _ => (pj_Rz (L := [some (.ref 59), some (.int 7)]) (st := []) (bc := 104) (bs := 780) rfl rfl rfl ?_)))
  refine pj_go (pj_D_le 1) (fun pc => pc == 39) 40 (pj_cT rfl (pj_cT rfl (pj_cT rfl (pj_Rz (L := [some (.ref 59), some (.int 7)]) (st := [.ref 117, .int 7, .ref 60]) (bc := 103) (bs := 771) (zs_op rfl rfl) (va_z (m := 117) (fun j => hz 117 j (by decide))) (va_z (m := 117) (fun j => hj 117 j (by decide))) ?_))))
  refine pj_go (pj_D_le 1) (fun pc => pc == 40) 40 (pj_Rz (L := [some (.ref 59), some (.int 7)]) (st := [.ref 117, .ref 117, .int 7, .ref 60]) (bc := 103) (bs := 771) rfl rfl rfl ?_)
  refine pj_Rcs (pj_D_le 1) rfl rfl rfl rfl rfl rfl rfl rfl ?_
  refine k70 (by decide) (a := 117) (zst_h 7 (by decide)) (zle_d (zle_d (zle_m hD (by decide)) (by decide)) (by decide)) (fun c j hc => hz c j (by omega)) (fun c j hc => hj c j (by omega)) ?_
  refine ⟨rfl, ?_⟩
  show pj_R (pj_D 1) ta mc_8 false Q 43 [some (.ref 59), some (.int 7)] [.ref 117, .int 7, .ref 60] (zs n 125 ((60, 127) :: ((59, 1) :: D))) I J 96 720
  refine pj_go (pj_D_le 1) (fun pc => pc == 44) 40 (pj_cT rfl (And.intro (pj_in 7 20 rfl) (pj_Rz (Z' := (zs n 125 ((60, 255) :: ((59, 1) :: D)))) (L := [some (.ref 59), some (.int 7)]) (st := []) (bc := 96) (bs := 720) (zs_as rfl rfl) rfl rfl ?_)))
  refine pj_go (pj_D_le 1) (fun pc => pc == 25) 40 (pj_Rz (L := [some (.ref 59), some (.int 8)]) (st := []) (bc := 96) (bs := 720) rfl rfl rfl ?_)
  refine pj_go (pj_D_le 1) (fun pc => pc == 31) 40 (And.intro (fun c => absurd c (by decide)) (fun _ => (pj_Rz (L := [some (.ref 59), some (.int 8)]) (st := []) (bc := 96) (bs := 720) rfl rfl rfl ?_)))
  refine pj_go (pj_D_le 1) (fun pc => pc == 39) 40 (pj_cT rfl (pj_cT rfl (pj_cT rfl (pj_Rz (L := [some (.ref 59), some (.int 8)]) (st := [.ref 125, .int 8, .ref 60]) (bc := 95) (bs := 711) (zs_op rfl rfl) (va_z (m := 125) (fun j => hz 125 j (by decide))) (va_z (m := 125) (fun j => hj 125 j (by decide))) ?_))))
  refine pj_go (pj_D_le 1) (fun pc => pc == 40) 40 (pj_Rz (L := [some (.ref 59), some (.int 8)]) (st := [.ref 125, .ref 125, .int 8, .ref 60]) (bc := 95) (bs := 711) rfl rfl rfl ?_)
  refine pj_Rcs (pj_D_le 1) rfl rfl rfl rfl rfl rfl rfl rfl ?_
  refine k70 (by decide) (a := 125) (zst_h 8 (by decide)) (zle_d (zle_d (zle_m hD (by decide)) (by decide)) (by decide)) (fun c j hc => hz c j (by omega)) (fun c j hc => hj c j (by omega)) ?_
  refine ⟨rfl, ?_⟩
  show pj_R (pj_D 1) ta mc_8 false Q 43 [some (.ref 59), some (.int 8)] [.ref 125, .int 8, .ref 60] (zs n 133 ((60, 255) :: ((59, 1) :: D))) I J 88 660
  refine pj_go (pj_D_le 1) (fun pc => pc == 44) 40 (pj_cT rfl (And.intro (pj_in 8 20 rfl) (pj_Rz (Z' := (zs n 133 ((60, 511) :: ((59, 1) :: D)))) (L := [some (.ref 59), some (.int 8)]) (st := []) (bc := 88) (bs := 660) (zs_as rfl rfl) rfl rfl ?_)))
  refine pj_go (pj_D_le 1) (fun pc => pc == 25) 40 (pj_Rz (L := [some (.ref 59), some (.int 9)]) (st := []) (bc := 88) (bs := 660) rfl rfl rfl ?_)
  refine pj_go (pj_D_le 1) (fun pc => pc == 31) 40 (And.intro (fun c => absurd c (by decide)) (fun _ => (pj_Rz (L := [some (.ref 59), some (.int 9)]) (st := []) (bc := 88) (bs := 660) rfl rfl rfl ?_)))
  refine pj_go (pj_D_le 1) (fun pc => pc == 39) 40 (pj_cT rfl (pj_cT rfl (pj_cT rfl (pj_Rz (L := [some (.ref 59), some (.int 9)]) (st := [.ref 133, .int 9, .ref 60]) (bc := 87) (bs := 651) (zs_op rfl rfl) (va_z (m := 133) (fun j => hz 133 j (by decide))) (va_z (m := 133) (fun j => hj 133 j (by decide))) ?_))))
  refine pj_go (pj_D_le 1) (fun pc => pc == 40) 40 (pj_Rz (L := [some (.ref 59), some (.int 9)]) (st := [.ref 133, .ref 133, .int 9, .ref 60]) (bc := 87) (bs := 651) rfl rfl rfl ?_)
  refine pj_Rcs (pj_D_le 1) rfl rfl rfl rfl rfl rfl rfl rfl ?_
  refine k70 (by decide) (a := 133) (zst_h 9 (by decide)) (zle_d (zle_d (zle_m hD (by decide)) (by decide)) (by decide)) (fun c j hc => hz c j (by omega)) (fun c j hc => hj c j (by omega)) ?_
  refine ⟨rfl, ?_⟩
  show pj_R (pj_D 1) ta mc_8 false Q 43 [some (.ref 59), some (.int 9)] [.ref 133, .int 9, .ref 60] (zs n 141 ((60, 511) :: ((59, 1) :: D))) I J 80 600
  refine pj_go (pj_D_le 1) (fun pc => pc == 44) 40 (pj_cT rfl (And.intro (pj_in 9 20 rfl) (pj_Rz (Z' := (zs n 141 ((60, 1023) :: ((59, 1) :: D)))) (L := [some (.ref 59), some (.int 9)]) (st := []) (bc := 80) (bs := 600) (zs_as rfl rfl) rfl rfl ?_)))
  refine pj_go (pj_D_le 1) (fun pc => pc == 25) 40 (pj_Rz (L := [some (.ref 59), some (.int 10)]) (st := []) (bc := 80) (bs := 600) rfl rfl rfl ?_)
  refine pj_go (pj_D_le 1) (fun pc => pc == 31) 40 (And.intro (fun c => absurd c (by decide)) (fun _ => (pj_Rz (L := [some (.ref 59), some (.int 10)]) (st := []) (bc := 80) (bs := 600) rfl rfl rfl ?_)))
  refine pj_go (pj_D_le 1) (fun pc => pc == 39) 40 (pj_cT rfl (pj_cT rfl (pj_cT rfl (pj_Rz (L := [some (.ref 59), some (.int 10)]) (st := [.ref 141, .int 10, .ref 60]) (bc := 79) (bs := 591) (zs_op rfl rfl) (va_z (m := 141) (fun j => hz 141 j (by decide))) (va_z (m := 141) (fun j => hj 141 j (by decide))) ?_))))
  refine pj_go (pj_D_le 1) (fun pc => pc == 40) 40 (pj_Rz (L := [some (.ref 59), some (.int 10)]) (st := [.ref 141, .ref 141, .int 10, .ref 60]) (bc := 79) (bs := 591) rfl rfl rfl ?_)
  refine pj_Rcs (pj_D_le 1) rfl rfl rfl rfl rfl rfl rfl rfl ?_
  refine k70 (by decide) (a := 141) (zst_h 10 (by decide)) (zle_d (zle_d (zle_m hD (by decide)) (by decide)) (by decide)) (fun c j hc => hz c j (by omega)) (fun c j hc => hj c j (by omega)) ?_
  refine ⟨rfl, ?_⟩
  show pj_R (pj_D 1) ta mc_8 false Q 43 [some (.ref 59), some (.int 10)] [.ref 141, .int 10, .ref 60] (zs n 149 ((60, 1023) :: ((59, 1) :: D))) I J 72 540
  refine pj_go (pj_D_le 1) (fun pc => pc == 44) 40 (pj_cT rfl (And.intro (pj_in 10 20 rfl) (pj_Rz (Z' := (zs n 149 ((60, 2047) :: ((59, 1) :: D)))) (L := [some (.ref 59), some (.int 10)]) (st := []) (bc := 72) (bs := 540) (zs_as rfl rfl) rfl rfl ?_)))
  refine pj_go (pj_D_le 1) (fun pc => pc == 25) 40 (pj_Rz (L := [some (.ref 59), some (.int 11)]) (st := []) (bc := 72) (bs := 540) rfl rfl rfl ?_)
  refine pj_go (pj_D_le 1) (fun pc => pc == 31) 40 (And.intro (fun c => absurd c (by decide)) (fun _ => (pj_Rz (L := [some (.ref 59), some (.int 11)]) (st := []) (bc := 72) (bs := 540) rfl rfl rfl ?_)))
  refine pj_go (pj_D_le 1) (fun pc => pc == 39) 40 (pj_cT rfl (pj_cT rfl (pj_cT rfl (pj_Rz (L := [some (.ref 59), some (.int 11)]) (st := [.ref 149, .int 11, .ref 60]) (bc := 71) (bs := 531) (zs_op rfl rfl) (va_z (m := 149) (fun j => hz 149 j (by decide))) (va_z (m := 149) (fun j => hj 149 j (by decide))) ?_))))
  refine pj_go (pj_D_le 1) (fun pc => pc == 40) 40 (pj_Rz (L := [some (.ref 59), some (.int 11)]) (st := [.ref 149, .ref 149, .int 11, .ref 60]) (bc := 71) (bs := 531) rfl rfl rfl ?_)
  refine pj_Rcs (pj_D_le 1) rfl rfl rfl rfl rfl rfl rfl rfl ?_
  refine k70 (by decide) (a := 149) (zst_h 11 (by decide)) (zle_d (zle_d (zle_m hD (by decide)) (by decide)) (by decide)) (fun c j hc => hz c j (by omega)) (fun c j hc => hj c j (by omega)) ?_
  refine ⟨rfl, ?_⟩
  show pj_R (pj_D 1) ta mc_8 false Q 43 [some (.ref 59), some (.int 11)] [.ref 149, .int 11, .ref 60] (zs n 157 ((60, 2047) :: ((59, 1) :: D))) I J 64 480
  refine pj_go (pj_D_le 1) (fun pc => pc == 44) 40 (pj_cT rfl (And.intro (pj_in 11 20 rfl) (pj_Rz (Z' := (zs n 157 ((60, 4095) :: ((59, 1) :: D)))) (L := [some (.ref 59), some (.int 11)]) (st := []) (bc := 64) (bs := 480) (zs_as rfl rfl) rfl rfl ?_)))
  refine pj_go (pj_D_le 1) (fun pc => pc == 25) 40 (pj_Rz (L := [some (.ref 59), some (.int 12)]) (st := []) (bc := 64) (bs := 480) rfl rfl rfl ?_)
  refine pj_go (pj_D_le 1) (fun pc => pc == 31) 40 (And.intro (fun c => absurd c (by decide)) (fun _ => (pj_Rz (L := [some (.ref 59), some (.int 12)]) (st := []) (bc := 64) (bs := 480) rfl rfl rfl ?_)))
  refine pj_go (pj_D_le 1) (fun pc => pc == 39) 40 (pj_cT rfl (pj_cT rfl (pj_cT rfl (pj_Rz (L := [some (.ref 59), some (.int 12)]) (st := [.ref 157, .int 12, .ref 60]) (bc := 63) (bs := 471) (zs_op rfl rfl) (va_z (m := 157) (fun j => hz 157 j (by decide))) (va_z (m := 157) (fun j => hj 157 j (by decide))) ?_))))
  refine pj_go (pj_D_le 1) (fun pc => pc == 40) 40 (pj_Rz (L := [some (.ref 59), some (.int 12)]) (st := [.ref 157, .ref 157, .int 12, .ref 60]) (bc := 63) (bs := 471) rfl rfl rfl ?_)
  refine pj_Rcs (pj_D_le 1) rfl rfl rfl rfl rfl rfl rfl rfl ?_
  refine k70 (by decide) (a := 157) (zst_h 12 (by decide)) (zle_d (zle_d (zle_m hD (by decide)) (by decide)) (by decide)) (fun c j hc => hz c j (by omega)) (fun c j hc => hj c j (by omega)) ?_
  refine ⟨rfl, ?_⟩
  show pj_R (pj_D 1) ta mc_8 false Q 43 [some (.ref 59), some (.int 12)] [.ref 157, .int 12, .ref 60] (zs n 165 ((60, 4095) :: ((59, 1) :: D))) I J 56 420
  refine pj_go (pj_D_le 1) (fun pc => pc == 44) 40 (pj_cT rfl (And.intro (pj_in 12 20 rfl) (pj_Rz (Z' := (zs n 165 ((60, 8191) :: ((59, 1) :: D)))) (L := [some (.ref 59), some (.int 12)]) (st := []) (bc := 56) (bs := 420) (zs_as rfl rfl) rfl rfl ?_)))
  refine pj_go (pj_D_le 1) (fun pc => pc == 25) 40 (pj_Rz (L := [some (.ref 59), some (.int 13)]) (st := []) (bc := 56) (bs := 420) rfl rfl rfl ?_)
  refine pj_go (pj_D_le 1) (fun pc => pc == 31) 40 (And.intro (fun c => absurd c (by decide)) (fun _ => (pj_Rz (L := [some (.ref 59), some (.int 13)]) (st := []) (bc := 56) (bs := 420) rfl rfl rfl ?_)))
  refine pj_go (pj_D_le 1) (fun pc => pc == 39) 40 (pj_cT rfl (pj_cT rfl (pj_cT rfl (pj_Rz (L := [some (.ref 59), some (.int 13)]) (st := [.ref 165, .int 13, .ref 60]) (bc := 55) (bs := 411) (zs_op rfl rfl) (va_z (m := 165) (fun j => hz 165 j (by decide))) (va_z (m := 165) (fun j => hj 165 j (by decide))) ?_))))
  refine pj_go (pj_D_le 1) (fun pc => pc == 40) 40 (pj_Rz (L := [some (.ref 59), some (.int 13)]) (st := [.ref 165, .ref 165, .int 13, .ref 60]) (bc := 55) (bs := 411) rfl rfl rfl ?_)
  refine pj_Rcs (pj_D_le 1) rfl rfl rfl rfl rfl rfl rfl rfl ?_
  refine k70 (by decide) (a := 165) (zst_h 13 (by decide)) (zle_d (zle_d (zle_m hD (by decide)) (by decide)) (by decide)) (fun c j hc => hz c j (by omega)) (fun c j hc => hj c j (by omega)) ?_
  refine ⟨rfl, ?_⟩
  show pj_R (pj_D 1) ta mc_8 false Q 43 [some (.ref 59), some (.int 13)] [.ref 165, .int 13, .ref 60] (zs n 173 ((60, 8191) :: ((59, 1) :: D))) I J 48 360
  refine pj_go (pj_D_le 1) (fun pc => pc == 44) 40 (pj_cT rfl (And.intro (pj_in 13 20 rfl) (pj_Rz (Z' := (zs n 173 ((60, 16383) :: ((59, 1) :: D)))) (L := [some (.ref 59), some (.int 13)]) (st := []) (bc := 48) (bs := 360) (zs_as rfl rfl) rfl rfl ?_)))
  refine pj_go (pj_D_le 1) (fun pc => pc == 25) 40 (pj_Rz (L := [some (.ref 59), some (.int 14)]) (st := []) (bc := 48) (bs := 360) rfl rfl rfl ?_)
  refine pj_go (pj_D_le 1) (fun pc => pc == 31) 40 (And.intro (fun c => absurd c (by decide)) (fun _ => (pj_Rz (L := [some (.ref 59), some (.int 14)]) (st := []) (bc := 48) (bs := 360) rfl rfl rfl ?_)))
  refine pj_go (pj_D_le 1) (fun pc => pc == 39) 40 (pj_cT rfl (pj_cT rfl (pj_cT rfl (pj_Rz (L := [some (.ref 59), some (.int 14)]) (st := [.ref 173, .int 14, .ref 60]) (bc := 47) (bs := 351) (zs_op rfl rfl) (va_z (m := 173) (fun j => hz 173 j (by decide))) (va_z (m := 173) (fun j => hj 173 j (by decide))) ?_))))
  refine pj_go (pj_D_le 1) (fun pc => pc == 40) 40 (pj_Rz (L := [some (.ref 59), some (.int 14)]) (st := [.ref 173, .ref 173, .int 14, .ref 60]) (bc := 47) (bs := 351) rfl rfl rfl ?_)
  refine pj_Rcs (pj_D_le 1) rfl rfl rfl rfl rfl rfl rfl rfl ?_
  refine k70 (by decide) (a := 173) (zst_h 14 (by decide)) (zle_d (zle_d (zle_m hD (by decide)) (by decide)) (by decide)) (fun c j hc => hz c j (by omega)) (fun c j hc => hj c j (by omega)) ?_
  refine ⟨rfl, ?_⟩
  show pj_R (pj_D 1) ta mc_8 false Q 43 [some (.ref 59), some (.int 14)] [.ref 173, .int 14, .ref 60] (zs n 181 ((60, 16383) :: ((59, 1) :: D))) I J 40 300
  refine pj_go (pj_D_le 1) (fun pc => pc == 44) 40 (pj_cT rfl (And.intro (pj_in 14 20 rfl) (pj_Rz (Z' := (zs n 181 ((60, 32767) :: ((59, 1) :: D)))) (L := [some (.ref 59), some (.int 14)]) (st := []) (bc := 40) (bs := 300) (zs_as rfl rfl) rfl rfl ?_)))
  refine pj_go (pj_D_le 1) (fun pc => pc == 25) 40 (pj_Rz (L := [some (.ref 59), some (.int 15)]) (st := []) (bc := 40) (bs := 300) rfl rfl rfl ?_)
  refine pj_go (pj_D_le 1) (fun pc => pc == 31) 40 (And.intro (fun c => absurd c (by decide)) (fun _ => (pj_Rz (L := [some (.ref 59), some (.int 15)]) (st := []) (bc := 40) (bs := 300) rfl rfl rfl ?_)))
  refine pj_go (pj_D_le 1) (fun pc => pc == 39) 40 (pj_cT rfl (pj_cT rfl (pj_cT rfl (pj_Rz (L := [some (.ref 59), some (.int 15)]) (st := [.ref 181, .int 15, .ref 60]) (bc := 39) (bs := 291) (zs_op rfl rfl) (va_z (m := 181) (fun j => hz 181 j (by decide))) (va_z (m := 181) (fun j => hj 181 j (by decide))) ?_))))
  refine pj_go (pj_D_le 1) (fun pc => pc == 40) 40 (pj_Rz (L := [some (.ref 59), some (.int 15)]) (st := [.ref 181, .ref 181, .int 15, .ref 60]) (bc := 39) (bs := 291) rfl rfl rfl ?_)
  refine pj_Rcs (pj_D_le 1) rfl rfl rfl rfl rfl rfl rfl rfl ?_
  refine k70 (by decide) (a := 181) (zst_h 15 (by decide)) (zle_d (zle_d (zle_m hD (by decide)) (by decide)) (by decide)) (fun c j hc => hz c j (by omega)) (fun c j hc => hj c j (by omega)) ?_
  refine ⟨rfl, ?_⟩
  show pj_R (pj_D 1) ta mc_8 false Q 43 [some (.ref 59), some (.int 15)] [.ref 181, .int 15, .ref 60] (zs n 189 ((60, 32767) :: ((59, 1) :: D))) I J 32 240
  refine pj_go (pj_D_le 1) (fun pc => pc == 44) 40 (pj_cT rfl (And.intro (pj_in 15 20 rfl) (pj_Rz (Z' := (zs n 189 ((60, 65535) :: ((59, 1) :: D)))) (L := [some (.ref 59), some (.int 15)]) (st := []) (bc := 32) (bs := 240) (zs_as rfl rfl) rfl rfl ?_)))
  refine pj_go (pj_D_le 1) (fun pc => pc == 25) 40 (pj_Rz (L := [some (.ref 59), some (.int 16)]) (st := []) (bc := 32) (bs := 240) rfl rfl rfl ?_)
  refine pj_go (pj_D_le 1) (fun pc => pc == 31) 40 (And.intro (fun c => absurd c (by decide)) (fun _ => (pj_Rz (L := [some (.ref 59), some (.int 16)]) (st := []) (bc := 32) (bs := 240) rfl rfl rfl ?_)))
  refine pj_go (pj_D_le 1) (fun pc => pc == 39) 40 (pj_cT rfl (pj_cT rfl (pj_cT rfl (pj_Rz (L := [some (.ref 59), some (.int 16)]) (st := [.ref 189, .int 16, .ref 60]) (bc := 31) (bs := 231) (zs_op rfl rfl) (va_z (m := 189) (fun j => hz 189 j (by decide))) (va_z (m := 189) (fun j => hj 189 j (by decide))) ?_))))
  refine pj_go (pj_D_le 1) (fun pc => pc == 40) 40 (pj_Rz (L := [some (.ref 59), some (.int 16)]) (st := [.ref 189, .ref 189, .int 16, .ref 60]) (bc := 31) (bs := 231) rfl rfl rfl ?_)
  refine pj_Rcs (pj_D_le 1) rfl rfl rfl rfl rfl rfl rfl rfl ?_
  refine k70 (by decide) (a := 189) (zst_h 16 (by decide)) (zle_d (zle_d (zle_m hD (by decide)) (by decide)) (by decide)) (fun c j hc => hz c j (by omega)) (fun c j hc => hj c j (by omega)) ?_
  refine ⟨rfl, ?_⟩
  show pj_R (pj_D 1) ta mc_8 false Q 43 [some (.ref 59), some (.int 16)] [.ref 189, .int 16, .ref 60] (zs n 197 ((60, 65535) :: ((59, 1) :: D))) I J 24 180
  refine pj_go (pj_D_le 1) (fun pc => pc == 44) 40 (pj_cT rfl (And.intro (pj_in 16 20 rfl) (pj_Rz (Z' := (zs n 197 ((60, 131071) :: ((59, 1) :: D)))) (L := [some (.ref 59), some (.int 16)]) (st := []) (bc := 24) (bs := 180) (zs_as rfl rfl) rfl rfl ?_)))
  refine pj_go (pj_D_le 1) (fun pc => pc == 25) 40 (pj_Rz (L := [some (.ref 59), some (.int 17)]) (st := []) (bc := 24) (bs := 180) rfl rfl rfl ?_)
  refine pj_go (pj_D_le 1) (fun pc => pc == 31) 40 (And.intro (fun c => absurd c (by decide)) (fun _ => (pj_Rz (L := [some (.ref 59), some (.int 17)]) (st := []) (bc := 24) (bs := 180) rfl rfl rfl ?_)))
  refine pj_go (pj_D_le 1) (fun pc => pc == 39) 40 (pj_cT rfl (pj_cT rfl (pj_cT rfl (pj_Rz (L := [some (.ref 59), some (.int 17)]) (st := [.ref 197, .int 17, .ref 60]) (bc := 23) (bs := 171) (zs_op rfl rfl) (va_z (m := 197) (fun j => hz 197 j (by decide))) (va_z (m := 197) (fun j => hj 197 j (by decide))) ?_))))
  refine pj_go (pj_D_le 1) (fun pc => pc == 40) 40 (pj_Rz (L := [some (.ref 59), some (.int 17)]) (st := [.ref 197, .ref 197, .int 17, .ref 60]) (bc := 23) (bs := 171) rfl rfl rfl ?_)
  refine pj_Rcs (pj_D_le 1) rfl rfl rfl rfl rfl rfl rfl rfl ?_
  refine k70 (by decide) (a := 197) (zst_h 17 (by decide)) (zle_d (zle_d (zle_m hD (by decide)) (by decide)) (by decide)) (fun c j hc => hz c j (by omega)) (fun c j hc => hj c j (by omega)) ?_
  refine ⟨rfl, ?_⟩
  show pj_R (pj_D 1) ta mc_8 false Q 43 [some (.ref 59), some (.int 17)] [.ref 197, .int 17, .ref 60] (zs n 205 ((60, 131071) :: ((59, 1) :: D))) I J 16 120
  refine pj_go (pj_D_le 1) (fun pc => pc == 44) 40 (pj_cT rfl (And.intro (pj_in 17 20 rfl) (pj_Rz (Z' := (zs n 205 ((60, 262143) :: ((59, 1) :: D)))) (L := [some (.ref 59), some (.int 17)]) (st := []) (bc := 16) (bs := 120) (zs_as rfl rfl) rfl rfl ?_)))
  refine pj_go (pj_D_le 1) (fun pc => pc == 25) 40 (pj_Rz (L := [some (.ref 59), some (.int 18)]) (st := []) (bc := 16) (bs := 120) rfl rfl rfl ?_)
  refine pj_go (pj_D_le 1) (fun pc => pc == 31) 40 (And.intro (fun c => absurd c (by decide)) (fun _ => (pj_Rz (L := [some (.ref 59), some (.int 18)]) (st := []) (bc := 16) (bs := 120) rfl rfl rfl ?_)))
  refine pj_go (pj_D_le 1) (fun pc => pc == 39) 40 (pj_cT rfl (pj_cT rfl (pj_cT rfl (pj_Rz (L := [some (.ref 59), some (.int 18)]) (st := [.ref 205, .int 18, .ref 60]) (bc := 15) (bs := 111) (zs_op rfl rfl) (va_z (m := 205) (fun j => hz 205 j (by decide))) (va_z (m := 205) (fun j => hj 205 j (by decide))) ?_))))
  refine pj_go (pj_D_le 1) (fun pc => pc == 40) 40 (pj_Rz (L := [some (.ref 59), some (.int 18)]) (st := [.ref 205, .ref 205, .int 18, .ref 60]) (bc := 15) (bs := 111) rfl rfl rfl ?_)
  refine pj_Rcs (pj_D_le 1) rfl rfl rfl rfl rfl rfl rfl rfl ?_
  refine k70 (by decide) (a := 205) (zst_h 18 (by decide)) (zle_d (zle_d (zle_m hD (by decide)) (by decide)) (by decide)) (fun c j hc => hz c j (by omega)) (fun c j hc => hj c j (by omega)) ?_
  refine ⟨rfl, ?_⟩
  show pj_R (pj_D 1) ta mc_8 false Q 43 [some (.ref 59), some (.int 18)] [.ref 205, .int 18, .ref 60] (zs n 213 ((60, 262143) :: ((59, 1) :: D))) I J 8 60
  refine pj_go (pj_D_le 1) (fun pc => pc == 44) 40 (pj_cT rfl (And.intro (pj_in 18 20 rfl) (pj_Rz (Z' := (zs n 213 ((60, 524287) :: ((59, 1) :: D)))) (L := [some (.ref 59), some (.int 18)]) (st := []) (bc := 8) (bs := 60) (zs_as rfl rfl) rfl rfl ?_)))
  refine pj_go (pj_D_le 1) (fun pc => pc == 25) 40 (pj_Rz (L := [some (.ref 59), some (.int 19)]) (st := []) (bc := 8) (bs := 60) rfl rfl rfl ?_)
  refine pj_go (pj_D_le 1) (fun pc => pc == 31) 40 (And.intro (fun c => absurd c (by decide)) (fun _ => (pj_Rz (L := [some (.ref 59), some (.int 19)]) (st := []) (bc := 8) (bs := 60) rfl rfl rfl ?_)))
  refine pj_go (pj_D_le 1) (fun pc => pc == 39) 40 (pj_cT rfl (pj_cT rfl (pj_cT rfl (pj_Rz (L := [some (.ref 59), some (.int 19)]) (st := [.ref 213, .int 19, .ref 60]) (bc := 7) (bs := 51) (zs_op rfl rfl) (va_z (m := 213) (fun j => hz 213 j (by decide))) (va_z (m := 213) (fun j => hj 213 j (by decide))) ?_))))
  refine pj_go (pj_D_le 1) (fun pc => pc == 40) 40 (pj_Rz (L := [some (.ref 59), some (.int 19)]) (st := [.ref 213, .ref 213, .int 19, .ref 60]) (bc := 7) (bs := 51) rfl rfl rfl ?_)
  refine pj_Rcs (pj_D_le 1) rfl rfl rfl rfl rfl rfl rfl rfl ?_
  refine k70 (by decide) (a := 213) (zst_h 19 (by decide)) (zle_d (zle_d (zle_m hD (by decide)) (by decide)) (by decide)) (fun c j hc => hz c j (by omega)) (fun c j hc => hj c j (by omega)) ?_
  refine ⟨rfl, ?_⟩
  show pj_R (pj_D 1) ta mc_8 false Q 43 [some (.ref 59), some (.int 19)] [.ref 213, .int 19, .ref 60] (zs n 221 ((60, 524287) :: ((59, 1) :: D))) I J 0 0
  refine pj_go (pj_D_le 1) (fun pc => pc == 44) 40 (pj_cT rfl (And.intro (pj_in 19 20 rfl) (pj_Rz (Z' := (zs n 221 ((60, 1048575) :: ((59, 1) :: D)))) (L := [some (.ref 59), some (.int 19)]) (st := []) (bc := 0) (bs := 0) (zs_as rfl rfl) rfl rfl ?_)))
  refine pj_go (pj_D_le 1) (fun pc => pc == 25) 40 (pj_Rz (L := [some (.ref 59), some (.int 20)]) (st := []) (bc := 0) (bs := 0) rfl rfl rfl ?_)
  refine pj_go (pj_D_le 1) (fun pc => pc == 50) 40 (And.intro (fun _ => (pj_Rz (L := [some (.ref 59), some (.int 20)]) (st := []) (bc := 0) (bs := 0) rfl rfl rfl ?_)) (fun c => absurd (by decide) c))
  refine pj_go (pj_D_le 1) (fun _ => false) 40 (pj_cT rfl ?_)
  show Q none ((zs n 221 ((60, 1048575) :: ((59, 1) :: D))), I, J)
  rw [zs_pp (a := 60) rfl (by show (bif Nat.beq 60 59 then _ else zlk D 60) = none; rw [be_f (by decide)]; exact zlk_n hD (by decide)), zs_pp (a := 59) rfl (zlk_n hD (Nat.le_refl _))]
  exact q
end PCd
