/-! constructors of the class: those that call others -/
section PCb
variable {n h : Nat} {Q : pj_K} {I : Nat → Nat → Int32} {J : Nat → Nat → Int64}
/-- Passing.<init> -/
theorem k19_239 (hh : 2 ≤ h) {D : List (Nat × Nat)} (hD : zle D 239 = true) (hz : ∀ c j, 239 ≤ c → I c j = 0) (hj : ∀ c j, 239 ≤ c → J c j = 0) (q : Q none (zs n 251 D, I, J)) : pj_D h 19 [.ref 239, .ref 5] (zs n 240 ((239, 0) :: D), I, J) Q := by
  have hp : ∀ m, 239 < m → ∀ b, zlk ((239, b) :: D) m = none := fun m hm b => by
    show (bif Nat.beq m 239 then some b else zlk D m) = none
    rw [be_f (by omega), zlk_n hD (by omega)]; rfl
  refine pj_ent (g := 1) hh (t := mt_19) rfl rfl ?_
  show pj_R (pj_D 1) ta mc_19 false Q 0 [some (.ref 239), some (.ref 5)] [] (zs n 240 ((239, 0) :: D)) I J 11 295
  refine pj_go (pj_D_le 1) (fun pc => pc == 8) 40 (pj_cT rfl (pj_cT rfl (pj_Rz (L := [some (.ref 239), some (.ref 5)]) (st := [.ref 240, .ref 239]) (bc := 10) (bs := 286) (zs_op rfl rfl) (va_z (m := 240) (fun j => hz 240 j (by decide))) (va_z (m := 240) (fun j => hj 240 j (by decide))) ?_)))
  refine pj_go (pj_D_le 1) (fun pc => pc == 12) 40 (pj_cT rfl (pj_cT rfl ?_))
  refine k70 (by decide) (a := 240) (zst_l 240 (by decide)) ((zle_c hD (by decide) (by decide)).2 _) (fun c j hc => hz c j (by omega)) (fun c j hc => hj c j (by omega)) ?_
  sorry
end PCb
