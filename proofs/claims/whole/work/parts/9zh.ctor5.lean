/-! constructors: PegCoats -/
section PCf
variable {n h : Nat} {Q : pj_K} {I : Nat → Nat → Int32} {J : Nat → Nat → Int64}

/-- PegCoats.<init> -/
theorem k110 (hh : 3 ≤ h) (hz : ∀ c j, 2 ≤ c → I c j = 0) (hj : ∀ c j, 2 ≤ c → J c j = 0) (q : ∀ I', (∀ c j, c ≠ 2 → c ≠ 31 → c ≠ 32 → c ≠ 33 → c ≠ 251 → I' c j = I c j) → I' 2 15 = 1 → (I' 31 2 = 0 ∧ I' 31 3 = -1) → (∀ k, k < 22 → I' 33 k = owC k) → I' 251 4 = 0 → Q none (zs n 276 [], I', J)) : pj_D h 110 [.ref 2] (zs n 3 ((2, 0) :: []), I, J) Q := by
  refine pj_ent (g := 2) hh (t := mt_110) rfl rfl ?_
  show pj_R (pj_D 2) ta mc_110 false Q 0 [some (.ref 2)] [] (zs n 3 ((2, 0) :: [])) I J 273 10616
  refine pj_go (pj_D_le 2) (fun pc => pc == 8) 40 (pj_cT rfl (pj_cT rfl (pj_Rz (L := [some (.ref 2)]) (st := [.ref 3, .ref 2]) (bc := 272) (bs := 10614) (zs_op rfl rfl) (va_z (m := 3) (fun j => hz 3 j (by decide))) (va_z (m := 3) (fun j => hj 3 j (by decide))) ?_)))
  refine pj_go (pj_D_le 2) (fun pc => pc == 9) 40 (pj_Rz (L := [some (.ref 2)]) (st := [.ref 3, .ref 3, .ref 2]) (bc := 272) (bs := 10614) rfl rfl rfl ?_)
  refine pj_Rcs (pj_D_le 2) rfl rfl rfl rfl rfl rfl rfl rfl ?_
  refine k81_3 (by decide) rfl (fun c j hc => hz c j (by omega)) (fun c j hc => hj c j (by omega)) ?_
  refine ⟨rfl, ?_⟩
  show pj_R (pj_D 2) ta mc_110 false Q 12 [some (.ref 2)] [.ref 3, .ref 2] (zs n 5 ((2, 0) :: [])) I J 271 9014
  refine pj_go (pj_D_le 2) (fun pc => pc == 15) 40 (pj_cT rfl (pj_Rz (L := [some (.ref 2)]) (st := []) (bc := 271) (bs := 9014) (zs_as rfl rfl) rfl rfl ?_))
  refine pj_go (pj_D_le 2) (fun pc => pc == 19) 40 (pj_cT rfl (pj_Rz (L := [some (.ref 2)]) (st := [.ref 5, .ref 2]) (bc := 270) (bs := 8997) (zs_op rfl rfl) (va_z (m := 5) (fun j => hz 5 j (by decide))) (va_z (m := 5) (fun j => hj 5 j (by decide))) ?_))
  refine pj_go (pj_D_le 2) (fun pc => pc == 20) 40 (pj_Rz (L := [some (.ref 2)]) (st := [.ref 5, .ref 5, .ref 2]) (bc := 270) (bs := 8997) rfl rfl rfl ?_)
  refine pj_Rcs (pj_D_le 2) rfl rfl rfl rfl rfl rfl rfl rfl ?_
  refine k98_5 (by decide) rfl (fun c j hc => hz c j (by omega)) (fun c j hc => hj c j (by omega)) ?_
  refine ⟨rfl, ?_⟩
  show pj_R (pj_D 2) ta mc_110 false Q 23 [some (.ref 2)] [.ref 5, .ref 2] (zs n 18 ((2, 1) :: [])) I J 258 7182
  refine pj_go (pj_D_le 2) (fun pc => pc == 26) 40 (pj_cT rfl (pj_Rz (L := [some (.ref 2)]) (st := []) (bc := 258) (bs := 7182) (zs_as rfl rfl) rfl rfl ?_))
  refine pj_go (pj_D_le 2) (fun pc => pc == 30) 40 (pj_cT rfl (pj_Rz (L := [some (.ref 2)]) (st := [.ref 18, .ref 2]) (bc := 257) (bs := 7165) (zs_op rfl rfl) (va_z (m := 18) (fun j => hz 18 j (by decide))) (va_z (m := 18) (fun j => hj 18 j (by decide))) ?_))
  refine pj_go (pj_D_le 2) (fun pc => pc == 31) 40 (pj_Rz (L := [some (.ref 2)]) (st := [.ref 18, .ref 18, .ref 2]) (bc := 257) (bs := 7165) rfl rfl rfl ?_)
  refine pj_Rcs (pj_D_le 2) rfl rfl rfl rfl rfl rfl rfl rfl ?_
  refine k98_18 (by decide) rfl (fun c j hc => hz c j (by omega)) (fun c j hc => hj c j (by omega)) ?_
  refine ⟨rfl, ?_⟩
  show pj_R (pj_D 2) ta mc_110 false Q 34 [some (.ref 2)] [.ref 18, .ref 2] (zs n 31 ((2, 3) :: [])) I J 245 5350
  refine pj_go (pj_D_le 2) (fun pc => pc == 37) 40 (pj_cT rfl (pj_Rz (L := [some (.ref 2)]) (st := []) (bc := 245) (bs := 5350) (zs_as rfl rfl) rfl rfl ?_))
  refine pj_go (pj_D_le 2) (fun pc => pc == 41) 40 (pj_cT rfl (pj_Rz (L := [some (.ref 2)]) (st := [.ref 31, .ref 2]) (bc := 244) (bs := 5344) (zs_op rfl rfl) (va_z (m := 31) (fun j => hz 31 j (by decide))) (va_z (m := 31) (fun j => hj 31 j (by decide))) ?_))
  refine pj_go (pj_D_le 2) (fun pc => pc == 43) 40 (pj_Rz (L := [some (.ref 2)]) (st := [.ref 2, .ref 31, .ref 31, .ref 2]) (bc := 244) (bs := 5344) rfl rfl rfl ?_)
  refine pj_Rgf (r := 3) (pj_D_le 2) rfl rfl rfl ?_
  refine pj_go (pj_D_le 2) (fun pc => pc == 47) 40 (pj_Rz (L := [some (.ref 2)]) (st := [.ref 2, .ref 3, .ref 31, .ref 31, .ref 2]) (bc := 244) (bs := 5344) rfl rfl rfl ?_)
  refine pj_Rgf (r := 18) (pj_D_le 2) rfl rfl rfl ?_
  refine pj_Rcs (pj_D_le 2) rfl rfl rfl rfl rfl rfl rfl rfl ?_
  refine k35_31 (by decide) rfl (fun c j hc => hz c j (by omega)) (fun c j hc => hj c j (by omega)) (fun I1 f1 w1 => ?_)
  have hz1 : ∀ c j, (2 ≤ c ∧ c ≠ 31 ∧ c ≠ 32 ∧ c ≠ 33) → I1 c j = 0 := fun c j hc => (f1 c j hc.2.2.2).trans ((pj_u_n hc.2.2.1).trans ((pj_u_n hc.2.1).trans (hz c j hc.1)))
  refine ⟨rfl, ?_⟩
  show pj_R (pj_D 2) ta mc_110 false Q 53 [some (.ref 2)] [.ref 31, .ref 2] (zs n 34 ((2, 7) :: [])) I1 J 242 5314
  refine pj_go (pj_D_le 2) (fun pc => pc == 56) 40 (pj_cT rfl (pj_Rz (L := [some (.ref 2)]) (st := []) (bc := 242) (bs := 5314) (zs_as rfl rfl) rfl rfl ?_))
  refine pj_go (pj_D_le 2) (fun pc => pc == 60) 40 (pj_cT rfl (pj_Rz (L := [some (.ref 2)]) (st := [.ref 34, .ref 2]) (bc := 241) (bs := 5311) (zs_op rfl rfl) (va_z (m := 34) (fun j => hz1 34 j (by decide))) (va_z (m := 34) (fun j => hj 34 j (by decide))) ?_))
  refine pj_go (pj_D_le 2) (fun pc => pc == 62) 40 (pj_Rz (L := [some (.ref 2)]) (st := [.ref 2, .ref 34, .ref 34, .ref 2]) (bc := 241) (bs := 5311) rfl rfl rfl ?_)
  refine pj_Rgf (r := 5) (pj_D_le 2) rfl rfl rfl ?_
  refine pj_Rcs (pj_D_le 2) rfl rfl rfl rfl rfl rfl rfl rfl ?_
  refine k1_34 (by decide) rfl (fun c j hc => hz1 c j (by omega)) (fun c j hc => hj c j (by omega)) ?_
  refine ⟨rfl, ?_⟩
  show pj_R (pj_D 2) ta mc_110 false Q 68 [some (.ref 2)] [.ref 34, .ref 2] (zs n 35 ((2, 15) :: [])) I1 J 241 5311
  refine pj_go (pj_D_le 2) (fun pc => pc == 71) 40 (pj_cT rfl (pj_Rz (L := [some (.ref 2)]) (st := []) (bc := 241) (bs := 5311) (zs_as rfl rfl) rfl rfl ?_))
  refine pj_go (pj_D_le 2) (fun pc => pc == 75) 40 (pj_cT rfl (pj_Rz (L := [some (.ref 2)]) (st := [.ref 35, .ref 2]) (bc := 240) (bs := 5302) (zs_op rfl rfl) (va_z (m := 35) (fun j => hz1 35 j (by decide))) (va_z (m := 35) (fun j => hj 35 j (by decide))) ?_))
  refine pj_go (pj_D_le 2) (fun pc => pc == 76) 40 (pj_Rz (L := [some (.ref 2)]) (st := [.ref 35, .ref 35, .ref 2]) (bc := 240) (bs := 5302) rfl rfl rfl ?_)
  refine pj_Rcs (pj_D_le 2) rfl rfl rfl rfl rfl rfl rfl rfl ?_
  refine k70 (by decide) (a := 35) (zst_l 35 (by decide)) rfl (fun c j hc => hz1 c j (by omega)) (fun c j hc => hj c j (by omega)) ?_
  refine ⟨rfl, ?_⟩
  show pj_R (pj_D 2) ta mc_110 false Q 79 [some (.ref 2)] [.ref 35, .ref 2] (zs n 43 ((2, 31) :: [])) I1 J 233 5251
  refine pj_go (pj_D_le 2) (fun pc => pc == 82) 40 (pj_cT rfl (pj_Rz (L := [some (.ref 2)]) (st := []) (bc := 233) (bs := 5251) (zs_as rfl rfl) rfl rfl ?_))
  refine pj_go (pj_D_le 2) (fun pc => pc == 86) 40 (pj_cT rfl (pj_Rz (L := [some (.ref 2)]) (st := [.ref 43, .ref 2]) (bc := 232) (bs := 5242) (zs_op rfl rfl) (va_z (m := 43) (fun j => hz1 43 j (by decide))) (va_z (m := 43) (fun j => hj 43 j (by decide))) ?_))
  refine pj_go (pj_D_le 2) (fun pc => pc == 87) 40 (pj_Rz (L := [some (.ref 2)]) (st := [.ref 43, .ref 43, .ref 2]) (bc := 232) (bs := 5242) rfl rfl rfl ?_)
  refine pj_Rcs (pj_D_le 2) rfl rfl rfl rfl rfl rfl rfl rfl ?_
  refine k70 (by decide) (a := 43) (zst_l 43 (by decide)) rfl (fun c j hc => hz1 c j (by omega)) (fun c j hc => hj c j (by omega)) ?_
  refine ⟨rfl, ?_⟩
  show pj_R (pj_D 2) ta mc_110 false Q 90 [some (.ref 2)] [.ref 43, .ref 2] (zs n 51 ((2, 63) :: [])) I1 J 225 5191
  refine pj_go (pj_D_le 2) (fun pc => pc == 93) 40 (pj_cT rfl (pj_Rz (L := [some (.ref 2)]) (st := []) (bc := 225) (bs := 5191) (zs_as rfl rfl) rfl rfl ?_))
  refine pj_go (pj_D_le 2) (fun pc => pc == 97) 40 (pj_cT rfl (pj_Rz (L := [some (.ref 2)]) (st := [.ref 51, .ref 2]) (bc := 224) (bs := 5182) (zs_op rfl rfl) (va_z (m := 51) (fun j => hz1 51 j (by decide))) (va_z (m := 51) (fun j => hj 51 j (by decide))) ?_))
  refine pj_go (pj_D_le 2) (fun pc => pc == 98) 40 (pj_Rz (L := [some (.ref 2)]) (st := [.ref 51, .ref 51, .ref 2]) (bc := 224) (bs := 5182) rfl rfl rfl ?_)
  refine pj_Rcs (pj_D_le 2) rfl rfl rfl rfl rfl rfl rfl rfl ?_
  refine k70 (by decide) (a := 51) (zst_l 51 (by decide)) rfl (fun c j hc => hz1 c j (by omega)) (fun c j hc => hj c j (by omega)) ?_
  refine ⟨rfl, ?_⟩
  show pj_R (pj_D 2) ta mc_110 false Q 101 [some (.ref 2)] [.ref 51, .ref 2] (zs n 59 ((2, 127) :: [])) I1 J 217 5131
  refine pj_go (pj_D_le 2) (fun pc => pc == 104) 40 (pj_cT rfl (pj_Rz (L := [some (.ref 2)]) (st := []) (bc := 217) (bs := 5131) (zs_as rfl rfl) rfl rfl ?_))
  refine pj_go (pj_D_le 2) (fun pc => pc == 108) 40 (pj_cT rfl (pj_Rz (L := [some (.ref 2)]) (st := [.ref 59, .ref 2]) (bc := 216) (bs := 5128) (zs_op rfl rfl) (va_z (m := 59) (fun j => hz1 59 j (by decide))) (va_z (m := 59) (fun j => hj 59 j (by decide))) ?_))
  refine pj_go (pj_D_le 2) (fun pc => pc == 109) 40 (pj_Rz (L := [some (.ref 2)]) (st := [.ref 59, .ref 59, .ref 2]) (bc := 216) (bs := 5128) rfl rfl rfl ?_)
  refine pj_Rcs (pj_D_le 2) rfl rfl rfl rfl rfl rfl rfl rfl ?_
  refine k8_59 (by decide) rfl (fun c j hc => hz1 c j (by omega)) (fun c j hc => hj c j (by omega)) ?_
  refine ⟨rfl, ?_⟩
  show pj_R (pj_D 2) ta mc_110 false Q 112 [some (.ref 2)] [.ref 59, .ref 2] (zs n 221 ((2, 255) :: [])) I1 J 55 3908
  refine pj_go (pj_D_le 2) (fun pc => pc == 115) 40 (pj_cT rfl (pj_Rz (L := [some (.ref 2)]) (st := []) (bc := 55) (bs := 3908) (zs_as rfl rfl) rfl rfl ?_))
  refine pj_go (pj_D_le 2) (fun pc => pc == 119) 40 (pj_cT rfl (pj_Rz (L := [some (.ref 2)]) (st := [.ref 221, .ref 2]) (bc := 54) (bs := 3905) (zs_op rfl rfl) (va_z (m := 221) (fun j => hz1 221 j (by decide))) (va_z (m := 221) (fun j => hj 221 j (by decide))) ?_))
  refine pj_go (pj_D_le 2) (fun pc => pc == 121) 40 (pj_Rz (L := [some (.ref 2)]) (st := [.ref 2, .ref 221, .ref 221, .ref 2]) (bc := 54) (bs := 3905) rfl rfl rfl ?_)
  refine pj_Rgf (r := 5) (pj_D_le 2) rfl rfl rfl ?_
  refine pj_Rcs (pj_D_le 2) rfl rfl rfl rfl rfl rfl rfl rfl ?_
  refine k12_221 (by decide) rfl (fun c j hc => hz1 c j (by omega)) (fun c j hc => hj c j (by omega)) ?_
  refine ⟨rfl, ?_⟩
  show pj_R (pj_D 2) ta mc_110 false Q 127 [some (.ref 2)] [.ref 221, .ref 2] (zs n 239 ((2, 511) :: [])) I1 J 37 1786
  refine pj_go (pj_D_le 2) (fun pc => pc == 130) 40 (pj_cT rfl (pj_Rz (L := [some (.ref 2)]) (st := []) (bc := 37) (bs := 1786) (zs_as rfl rfl) rfl rfl ?_))
  refine pj_go (pj_D_le 2) (fun pc => pc == 134) 40 (pj_cT rfl (pj_Rz (L := [some (.ref 2)]) (st := [.ref 239, .ref 2]) (bc := 36) (bs := 1781) (zs_op rfl rfl) (va_z (m := 239) (fun j => hz1 239 j (by decide))) (va_z (m := 239) (fun j => hj 239 j (by decide))) ?_))
  refine pj_go (pj_D_le 2) (fun pc => pc == 136) 40 (pj_Rz (L := [some (.ref 2)]) (st := [.ref 2, .ref 239, .ref 239, .ref 2]) (bc := 36) (bs := 1781) rfl rfl rfl ?_)
  refine pj_Rgf (r := 5) (pj_D_le 2) rfl rfl rfl ?_
  refine pj_Rcs (pj_D_le 2) rfl rfl rfl rfl rfl rfl rfl rfl ?_
  refine k19_239 (by decide) rfl (fun c j hc => hz1 c j (by omega)) (fun c j hc => hj c j (by omega)) ?_
  refine ⟨rfl, ?_⟩
  show pj_R (pj_D 2) ta mc_110 false Q 142 [some (.ref 2)] [.ref 239, .ref 2] (zs n 251 ((2, 1023) :: [])) I1 J 25 1486
  refine pj_go (pj_D_le 2) (fun pc => pc == 145) 40 (pj_cT rfl (pj_Rz (L := [some (.ref 2)]) (st := []) (bc := 25) (bs := 1486) (zs_as rfl rfl) rfl rfl ?_))
  refine pj_go (pj_D_le 2) (fun pc => pc == 149) 40 (pj_cT rfl (pj_Rz (L := [some (.ref 2)]) (st := [.ref 251, .ref 2]) (bc := 24) (bs := 1474) (zs_op rfl rfl) (va_z (m := 251) (fun j => hz1 251 j (by decide))) (va_z (m := 251) (fun j => hj 251 j (by decide))) ?_))
  refine pj_go (pj_D_le 2) (fun pc => pc == 151) 40 (pj_Rz (L := [some (.ref 2)]) (st := [.ref 2, .ref 251, .ref 251, .ref 2]) (bc := 24) (bs := 1474) rfl rfl rfl ?_)
  refine pj_Rgf (r := 5) (pj_D_le 2) rfl rfl rfl ?_
  refine pj_go (pj_D_le 2) (fun pc => pc == 155) 40 (pj_Rz (L := [some (.ref 2)]) (st := [.ref 2, .ref 5, .ref 251, .ref 251, .ref 2]) (bc := 24) (bs := 1474) rfl rfl rfl ?_)
  refine pj_Rgf (r := 34) (pj_D_le 2) rfl rfl rfl ?_
  refine pj_Rcs (pj_D_le 2) rfl rfl rfl rfl rfl rfl rfl rfl ?_
  refine k87_251 (by decide) rfl (fun c j hc => hz1 c j (by omega)) (fun c j hc => hj c j (by omega)) ?_
  refine ⟨rfl, ?_⟩
  show pj_R (pj_D 2) ta mc_110 false Q 161 [some (.ref 2)] [.ref 251, .ref 2] (zs n 272 ((2, 2047) :: [])) (pj_u (pj_u (pj_u I1 251 9 (-1)) 251 10 (-1)) 251 11 (-1)) J 4 1069
  refine pj_go (pj_D_le 2) (fun pc => pc == 164) 40 (pj_cT rfl (pj_Rz (L := [some (.ref 2)]) (st := []) (bc := 4) (bs := 1069) (zs_as rfl rfl) rfl rfl ?_))
  refine pj_go (pj_D_le 2) (fun pc => pc == 168) 40 (pj_cT rfl (pj_Rz (L := [some (.ref 2)]) (st := [.ref 272, .ref 2]) (bc := 3) (bs := 1066) (zs_op rfl rfl) (va_z (m := 272) (fun j => (pj_u_n (by decide)).trans ((pj_u_n (by decide)).trans ((pj_u_n (by decide)).trans (hz1 272 j (by decide)))))) (va_z (m := 272) (fun j => hj 272 j (by decide))) ?_))
  refine pj_go (pj_D_le 2) (fun pc => pc == 170) 40 (pj_Rz (L := [some (.ref 2)]) (st := [.ref 2, .ref 272, .ref 272, .ref 2]) (bc := 3) (bs := 1066) rfl rfl rfl ?_)
  refine pj_Rgf (r := 5) (pj_D_le 2) rfl rfl rfl ?_
  refine pj_Rcs (pj_D_le 2) rfl rfl rfl rfl rfl rfl rfl rfl ?_
  refine k28_272 (by decide) rfl (fun c j hc => (pj_u_n (by omega)).trans ((pj_u_n (by omega)).trans ((pj_u_n (by omega)).trans (hz1 c j (by omega))))) (fun c j hc => hj c j (by omega)) ?_
  refine ⟨rfl, ?_⟩
  show pj_R (pj_D 2) ta mc_110 false Q 176 [some (.ref 2)] [.ref 272, .ref 2] (zs n 274 ((2, 4095) :: [])) (pj_u (pj_u (pj_u I1 251 9 (-1)) 251 10 (-1)) 251 11 (-1)) J 2 1005
  refine pj_go (pj_D_le 2) (fun pc => pc == 179) 40 (pj_cT rfl (pj_Rz (L := [some (.ref 2)]) (st := []) (bc := 2) (bs := 1005) (zs_as rfl rfl) rfl rfl ?_))
  refine pj_go (pj_D_le 2) (fun pc => pc == 185) 40 (pj_cT rfl (pj_Rz (L := [some (.ref 2)]) (st := [.ref 274, .ref 2]) (bc := 1) (bs := 6) (zs_ar rfl rfl rfl rfl) (va_z (m := 274) (fun j => (pj_u_n (by decide)).trans ((pj_u_n (by decide)).trans ((pj_u_n (by decide)).trans (hz1 274 j (by decide)))))) (va_z (m := 274) (fun j => hj 274 j (by decide))) ?_))
  refine pj_go (pj_D_le 2) (fun pc => pc == 188) 40 (pj_cT rfl (pj_Rz (L := [some (.ref 2)]) (st := []) (bc := 1) (bs := 6) (zs_as rfl rfl) rfl rfl ?_))
  refine pj_go (pj_D_le 2) (fun pc => pc == 193) 40 (pj_cT rfl (pj_Rz (L := [some (.ref 2)]) (st := [.ref 275, .ref 2]) (bc := 0) (bs := 0) (zs_ar rfl rfl rfl rfl) (va_z (m := 275) (fun j => (pj_u_n (by decide)).trans ((pj_u_n (by decide)).trans ((pj_u_n (by decide)).trans (hz1 275 j (by decide)))))) (va_z (m := 275) (fun j => hj 275 j (by decide))) ?_))
  refine pj_go (pj_D_le 2) (fun pc => pc == 196) 40 (pj_cT rfl (pj_Rz (L := [some (.ref 2)]) (st := []) (bc := 0) (bs := 0) (zs_as rfl rfl) rfl rfl ?_))
  refine pj_go (pj_D_le 2) (fun pc => pc == 201) 40 (pj_cT rfl (pj_Rz (L := [some (.ref 2)]) (st := []) (bc := 0) (bs := 0) rfl rfl rfl ?_))
  refine pj_go (pj_D_le 2) (fun pc => pc == 202) 40 (pj_Rz (L := [some (.ref 2)]) (st := [.ref 2]) (bc := 0) (bs := 0) rfl rfl rfl ?_)
  refine pj_Rgf (r := 35) (pj_D_le 2) rfl rfl rfl ?_
  refine pj_go (pj_D_le 2) (fun pc => pc == 206) 40 (pj_Rz (L := [some (.ref 2)]) (st := [.ref 2, .ref 35]) (bc := 0) (bs := 0) rfl rfl rfl ?_)
  refine pj_Rgf (r := 5) (pj_D_le 2) rfl rfl rfl ?_
  refine pj_Rcv (pj_D_le 2) rfl rfl rfl rfl rfl rfl ?_
  refine k71 (by decide) ((pj_u_n (by decide)).trans ((pj_u_n (by decide)).trans ((pj_u_n (by decide)).trans ((pj_u_n (by decide)).trans (hz1 5 12 (by decide)))))) ((pj_u_n (by decide)).trans ((pj_u_n (by decide)).trans ((pj_u_n (by decide)).trans ((pj_u_n (by decide)).trans (hz1 5 13 (by decide)))))) ((pj_u_n (by decide)).trans ((pj_u_n (by decide)).trans ((pj_u_n (by decide)).trans ((pj_u_n (by decide)).trans (hz1 35 7 (by decide)))))) ((pj_u_n (by decide)).trans ((pj_u_n (by decide)).trans ((pj_u_n (by decide)).trans ((pj_u_n (by decide)).trans (hz1 35 8 (by decide)))))) ?_
  refine ⟨rfl, ?_⟩
  show pj_R (pj_D 2) ta mc_110 false Q 212 [some (.ref 2)] [] (zs n 276 ((2, 32767) :: [])) (pj_u (pj_u (pj_u (pj_u I1 251 9 (-1)) 251 10 (-1)) 251 11 (-1)) 2 15 1) J 0 0
  refine pj_go (pj_D_le 2) (fun _ => false) 40 (pj_cT rfl ?_)
  show Q none ((zs n 276 ((2, 32767) :: [])), (pj_u (pj_u (pj_u (pj_u I1 251 9 (-1)) 251 10 (-1)) 251 11 (-1)) 2 15 1), J)
  rw [zs_pp (a := 2) rfl rfl]
  refine q _ (fun c j h2 h31 h32 h33 h251 => ?_) pj_u_e ⟨?_, ?_⟩ (fun k hk => ?_) ?_
  · rw [pj_u_n h2, pj_u_n h251, pj_u_n h251, pj_u_n h251, f1 c j h33, pj_u_n h32, pj_u_n h31]
  · rw [pj_u_n (by decide), pj_u_n (by decide), pj_u_n (by decide), pj_u_n (by decide), f1 31 2 (by decide), pj_u_n (by decide), pj_u_j (by decide)]; exact hz 31 2 (by decide)
  · rw [pj_u_n (by decide), pj_u_n (by decide), pj_u_n (by decide), pj_u_n (by decide), f1 31 3 (by decide), pj_u_n (by decide), pj_u_e]
  · rw [pj_u_n (by decide), pj_u_n (by decide), pj_u_n (by decide), pj_u_n (by decide)]; exact w1 k hk
  · rw [pj_u_n (by decide), pj_u_j (by decide), pj_u_j (by decide), pj_u_j (by decide)]; exact hz1 251 4 (by decide)
end PCf
