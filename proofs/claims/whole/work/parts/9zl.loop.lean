/-! the law's loop, and its beginning -/
def A00 : Ab := ((0, fun _ => 0), W00, bgL W00, (0, fun _ => (0, 0, 0)), (0, fun _ => (bgL W00, 0)), (fun _ => 0), 1, (0, -1), (0, fun _ => (0, 0, none)), (0, fun _ => 0))
theorem AV_00 : AV A00 := ⟨WV_0, Nat.zero_le _, Nat.zero_le _, LV_bg WV_0, Nat.zero_le _, fun i hi => absurd hi (Nat.not_lt_zero _), Nat.zero_le _, fun i hi => absurd hi (Nat.not_lt_zero _), fun i j _ hj => absurd hj (Nat.not_lt_zero _), by decide, Nat.zero_le _, fun i hi => absurd hi (Nat.not_lt_zero _), Nat.zero_le _, fun i hi => absurd hi (Nat.not_lt_zero _)⟩
section PLl
variable {n : Nat} {Q : pj_K} {I : Nat → Nat → Int32} {J : Nat → Nat → Int64}
theorem sub6 {L i : Nat} (hL : L ≤ 3072) (hi : i ≤ 4000) : (nI L - 6 < nI i) ↔ L < i + 6 := by
  have e : (nI L - nI 6).toInt = (L : Int) - (6 : Nat) := pk_sub_toInt (a := L) (b := 6) (by omega) (by omega)
  have e2 : (nI i).toInt = (i : Int) := nI_toInt (by omega)
  show nI L - nI 6 < nI i ↔ _
  rw [Int32.lt_iff_toInt_lt, e, e2]
  omega
theorem lw_loop (hn : n ≤ 3072) (q : ∀ I J, Q (some (.int 1)) (zc n, I, J)) : ∀ r i A I J, i ≤ 3078 → n < i + 6 + 6 * r → AV A → InvC A I → InvM A I J → pj_R (pj_D 100) ta mc_0 true Q 18 [some (.ref 0), some (.ref 2), some (.ref 276), some (.int (nI i))] [] (zc n) I J 0 0 := by
  intro r
  induction r with
  | zero =>
    intro i A I J hi hr hA hC hM
    exact v0_18 (pj_D_le 100) I J _ (br_t ((sub6 hn (by omega)).mpr (by omega)) (q I J))
  | succ r ih =>
    intro i A I J hi hr hA hC hM
    refine v0_18 (pj_D_le 100) I J _ ?_
    by_cases c : n < i + 6
    · exact br_t ((sub6 hn (by omega)).mpr c) (q I J)
    · refine br_f (fun z => c ((sub6 hn (by omega)).mp z)) ⟨vp_in_nI (by omega) (by omega), ?_⟩
      have nx : LNx n Q (nI i) := fun A' I2 J2 hA' hC' hM' => v0_1053 (pj_D_le 100) I2 J2 _ (by
        rw [show nI i + 6 = nI (i + 6) from nI_add i 6]
        exact ih (i + 6) A' I2 J2 (by omega) (by omega) hA' hC' hM')
      have b : LBd n (nI i) := by
        unfold LBd
        rw [show nI i + 1 = nI (i + 1) from nI_add i 1, show nI i + 2 = nI (i + 2) from nI_add i 2, show nI i + 3 = nI (i + 3) from nI_add i 3, show nI i + 4 = nI (i + 4) from nI_add i 4, show nI i + 5 = nI (i + 5) from nI_add i 5]
        exact ⟨vp_in_nI (by omega) (by omega), vp_in_nI (by omega) (by omega), vp_in_nI (by omega) (by omega), vp_in_nI (by omega) (by omega), vp_in_nI (by omega) (by omega)⟩
      have dflt := nx A I J hA hC hM
      exact ⟨fun _ => lc_176 hA hC hM b nx, fun _ => ⟨fun _ => lc_239 hA hC hM b nx, fun _ => ⟨fun _ => lc_262 hA hC hM b nx, fun _ => ⟨fun _ => lc_275 hA hC hM b nx, fun _ => ⟨fun _ => lc_298 hA hC hM b nx, fun _ => ⟨fun _ => lc_321 hA hC hM b nx, fun _ => ⟨fun _ => lc_364 hA hC hM b nx, fun _ => ⟨fun _ => lc_397 hA hC hM b nx, fun _ => ⟨fun _ => lc_430 hA hC hM b nx, fun _ => ⟨fun _ => lc_464 hA hC hM b nx, fun _ => ⟨fun _ => lc_497 hA hC hM b nx, fun _ => ⟨fun _ => lc_530 hA hC hM b nx, fun _ => ⟨fun _ => lc_553 hA hC hM b nx, fun _ => ⟨fun _ => lc_576 hA hC hM b nx, fun _ => ⟨fun _ => lc_599 hA hC hM b nx, fun _ => ⟨fun _ => lc_642 hA hC hM b nx, fun _ => ⟨fun _ => lc_675 hA hC hM b nx, fun _ => ⟨fun _ => lc_708 hA hC hM b nx, fun _ => ⟨fun _ => lc_721 hA hC hM b nx, fun _ => ⟨fun _ => lc_744 hA hC hM b nx, fun _ => ⟨fun _ => lc_777 hA hC hM b nx, fun _ => ⟨fun _ => lc_800 hA hC hM b nx, fun _ => ⟨fun _ => lc_823 hA hC hM b nx, fun _ => ⟨fun _ => lc_856 hA hC hM b nx, fun _ => ⟨fun _ => lc_889 hA hC hM b nx, fun _ => ⟨fun _ => lc_912 hA hC hM b nx, fun _ => ⟨fun _ => lc_925 hA hC hM b nx, fun _ => ⟨fun _ => lc_948 hA hC hM b nx, fun _ => ⟨fun _ => lc_981 hA hC hM b nx, fun _ => ⟨fun _ => lc_994 hA hC hM b nx, fun _ => ⟨fun _ => lc_1017 hA hC hM b nx, fun _ => ⟨fun _ => lc_1030 hA hC hM b nx, fun _ => dflt⟩⟩⟩⟩⟩⟩⟩⟩⟩⟩⟩⟩⟩⟩⟩⟩⟩⟩⟩⟩⟩⟩⟩⟩⟩⟩⟩⟩⟩⟩⟩⟩
theorem InvC_00 (f : ∀ c j, 2 ≤ c → c ≠ 2 → c ≠ 31 → c ≠ 32 → c ≠ 33 → c ≠ 251 → c < 276 → I c j = 0) (h2 : I 2 15 = 1) (h31 : I 31 2 = 0 ∧ I 31 3 = -1) (h33 : ∀ k, k < 22 → I 33 k = owC k) (h251 : I 251 4 = 0) : InvC A00 I := by
  have z : ∀ c j, (2 ≤ c ∧ c ≠ 2 ∧ c ≠ 31 ∧ c ≠ 32 ∧ c ≠ 33 ∧ c ≠ 251 ∧ c < 276) → I c j = 0 := fun c j h => f c j h.1 h.2.1 h.2.2.1 h.2.2.2.1 h.2.2.2.2.1 h.2.2.2.2.2.1 h.2.2.2.2.2.2
  exact ⟨⟨Nat.zero_le _, z 3 1 (by decide), fun k hk => absurd hk (Nat.not_lt_zero _)⟩, ⟨⟨Nat.zero_le _, Nat.zero_le _, z 5 12 (by decide), z 5 13 (by decide), fun k hk => absurd hk (Nat.not_lt_zero _)⟩, fun p hp => ⟨z 14 p (by decide), z 15 p (by decide)⟩, z 5 15 (by decide), fun k hk => absurd hk (Nat.not_lt_zero _), fun k hk => absurd hk (Nat.not_lt_zero _)⟩, ⟨z 35 7 (by decide), fun k hk => absurd hk (Nat.not_lt_zero _), fun k hk => absurd hk (Nat.not_lt_zero _)⟩, ⟨Nat.zero_le _, z 35 8 (by decide), fun i hi => absurd hi (Nat.not_lt_zero _)⟩, ⟨0, by decide, z 59 2 (by decide), z 59 1 (by decide), fun i hi => absurd hi (Nat.not_lt_zero _)⟩, fun k hk => z 275 k (by decide), h2, h31, ⟨h251, fun i hi => absurd hi (Nat.not_lt_zero _)⟩, ⟨z 272 2 (by decide), fun i hi => absurd hi (Nat.not_lt_zero _)⟩, h33⟩
theorem InvM_00 (f : ∀ c j, 276 ≤ c → (c = 276 → j ≠ 9 ∧ j ≠ 11 ∧ j ≠ 12 ∧ j ≠ 29) → c ≠ 286 → I c j = 0) (h11 : I 276 11 = -1) (h286 : ∀ p, p < 3 → I 286 p = -1) (hj : J 276 54 = 1) : InvM A00 I J := by
  have z : ∀ c j, (276 ≤ c ∧ (c = 276 → j ≠ 9 ∧ j ≠ 11 ∧ j ≠ 12 ∧ j ≠ 29) ∧ c ≠ 286) → I c j = 0 := fun c j h => f c j h.1 h.2.1 h.2.2
  have y : ∀ c j, (276 < c ∧ c ≠ 286) → I c j = 0 := fun c j h => f c j (by omega) (by omega) h.2
  refine ⟨⟨Nat.zero_le _, z 276 1 (by decide), fun k hk => absurd hk (Nat.not_lt_zero _)⟩, ⟨0, z 276 13 (by decide), ⟨Nat.zero_le _, Nat.zero_le _, by decide, y 278 0 (by decide), y 281 0 (by decide), fun k hk => absurd hk (Nat.not_lt_zero _)⟩, fun p hp => ?_, y 285 0 (by decide), fun k hk => absurd hk (Nat.not_lt_zero _), fun k hk => absurd hk (Nat.not_lt_zero _)⟩, ⟨y 299 0 (by decide), ⟨0, y 300 0 (by decide), by decide, fun k hk => absurd hk (Nat.not_lt_zero _)⟩, ⟨0, y 306 0 (by decide), by decide, fun k hk => absurd hk (Nat.not_lt_zero _)⟩, fun k hk => absurd hk (Nat.not_lt_zero _), fun k hk => absurd hk (Nat.not_lt_zero _)⟩, ⟨y 307 0 (by decide), fun i hi => absurd hi (Nat.not_lt_zero _)⟩, ⟨0, by decide, z 276 52 (by decide), z 276 53 (by decide), fun i hi => absurd hi (Nat.not_lt_zero _)⟩, fun k hk => y 298 k (by decide), hj, ⟨z 276 10 (by decide), h11⟩, ⟨z 276 60 (by decide), fun i hi => absurd hi (Nat.not_lt_zero _)⟩, z 276 66 (by decide), fun i hi => absurd hi (Nat.not_lt_zero _)⟩
  show I 286 (3 * 0 + p) = -1
  rw [Nat.mul_zero, Nat.zero_add]
  exact h286 p hp
theorem lw_all {xs : Nat → Int32} (hn : n ≤ 3072) (q : ∀ I J, Q (some (.int 1)) (zc n, I, J)) : pj_R (pj_D 100) ta mc_0 true Q 0 [some (.ref 0), none, none, none] [] (pj_Z0 n) (pj_I0 xs) (fun _ _ => 0) 317 27802 := by
  have hz : ∀ c j, 2 ≤ c → pj_I0 xs c j = 0 := fun c j hc => by
    rcases c with _ | c
    · omega
    · rfl
  rw [zs_0]
  refine pj_go (pj_D_le 100) (fun pc => pc == 3) 40 (pj_cT rfl (pj_Rz (L := [some (.ref 0), none, none, none]) (st := [.ref 2]) (bc := 316) (bs := 27786) (zs_op rfl rfl) (va_z (m := 2) (fun j => hz 2 j (by decide))) (va_z (m := 2) (fun j => rfl)) ?_))
  refine pj_go (pj_D_le 100) (fun pc => pc == 4) 40 (pj_Rz (L := [some (.ref 0), none, none, none]) (st := [.ref 2, .ref 2]) (bc := 316) (bs := 27786) rfl rfl rfl ?_)
  refine pj_Rcs (pj_D_le 100) rfl rfl rfl rfl rfl rfl rfl rfl ?_
  refine k110 (by decide) hz (fun _ _ _ => rfl) (fun I1 f1 e2 e31 e33 e251 => ?_)
  refine ⟨rfl, ?_⟩
  show pj_R (pj_D 100) ta mc_0 true Q 7 [some (.ref 0), none, none, none] [.ref 2] (zs n 276 []) I1 (fun _ _ => 0) 43 17170
  have hz1 : ∀ c j, 276 ≤ c → I1 c j = 0 := fun c j hc => (f1 c j (by omega) (by omega) (by omega) (by omega) (by omega)).trans (hz c j (by omega))
  refine pj_go (pj_D_le 100) (fun pc => pc == 8) 40 (pj_Rz (L := [some (.ref 0), some (.ref 2), none, none]) (st := []) (bc := 43) (bs := 17170) rfl rfl rfl ?_)
  refine pj_go (pj_D_le 100) (fun pc => pc == 11) 40 (pj_cT rfl (pj_Rz (L := [some (.ref 0), some (.ref 2), none, none]) (st := [.ref 276]) (bc := 42) (bs := 17103) (zs_op rfl rfl) (va_z (m := 276) (fun j => hz1 276 j (by decide))) (va_z (m := 276) (fun j => rfl)) ?_))
  refine pj_go (pj_D_le 100) (fun pc => pc == 12) 40 (pj_Rz (L := [some (.ref 0), some (.ref 2), none, none]) (st := [.ref 276, .ref 276]) (bc := 42) (bs := 17103) rfl rfl rfl ?_)
  refine pj_Rcs (pj_D_le 100) rfl rfl rfl rfl rfl rfl rfl rfl ?_
  refine k158 (by decide) hz1 (fun _ _ _ => rfl) ?_
  refine ⟨rfl, ?_⟩
  show pj_R (pj_D 100) ta mc_0 true Q 15 [some (.ref 0), some (.ref 2), none, none] [.ref 276] (zs n 319 []) (pj_u (pj_u (pj_u (pj_u (pj_u (pj_u (pj_u (pj_u (pj_u (pj_u I1 276 9 (-1)) 276 11 (-1)) 276 12 (-1)) 276 29 1) 286 0 (-1)) 286 1 (-1)) 286 2 (-1)) 286 3 (-1)) 286 4 (-1)) 286 5 (-1)) (pj_u (fun _ _ => 0) 276 54 1) 0 0
  refine pj_go (pj_D_le 100) (fun pc => pc == 18) 40 (pj_Rz (L := [some (.ref 0), some (.ref 2), some (.ref 276), some (.int (nI 0))]) (st := []) (bc := 0) (bs := 0) zs_E rfl rfl ?_)
  refine lw_loop hn q n 0 A00 _ _ (by decide) (by omega) AV_00 (InvC_00 (fun c j h0 h2 h31 h32 h33 h251 hc => ?_) ?_ ⟨?_, ?_⟩ (fun k hk => ?_) ?_) (InvM_00 (fun c j hc h6 h86 => ?_) ?_ (fun p hp => ?_) pj_u_e)
  · rw [pj_u_n (by omega), pj_u_n (by omega), pj_u_n (by omega), pj_u_n (by omega), pj_u_n (by omega), pj_u_n (by omega), pj_u_n (by omega), pj_u_n (by omega), pj_u_n (by omega), pj_u_n (by omega)]
    exact (f1 c j h2 h31 h32 h33 h251).trans (hz c j h0)
  · rw [pj_u_n (by decide), pj_u_n (by decide), pj_u_n (by decide), pj_u_n (by decide), pj_u_n (by decide), pj_u_n (by decide), pj_u_n (by decide), pj_u_n (by decide), pj_u_n (by decide), pj_u_n (by decide)]; exact e2
  · rw [pj_u_n (by decide), pj_u_n (by decide), pj_u_n (by decide), pj_u_n (by decide), pj_u_n (by decide), pj_u_n (by decide), pj_u_n (by decide), pj_u_n (by decide), pj_u_n (by decide), pj_u_n (by decide)]; exact e31.1
  · rw [pj_u_n (by decide), pj_u_n (by decide), pj_u_n (by decide), pj_u_n (by decide), pj_u_n (by decide), pj_u_n (by decide), pj_u_n (by decide), pj_u_n (by decide), pj_u_n (by decide), pj_u_n (by decide)]; exact e31.2
  · rw [pj_u_n (by decide), pj_u_n (by decide), pj_u_n (by decide), pj_u_n (by decide), pj_u_n (by decide), pj_u_n (by decide), pj_u_n (by decide), pj_u_n (by decide), pj_u_n (by decide), pj_u_n (by decide)]; exact e33 k hk
  · rw [pj_u_n (by decide), pj_u_n (by decide), pj_u_n (by decide), pj_u_n (by decide), pj_u_n (by decide), pj_u_n (by decide), pj_u_n (by decide), pj_u_n (by decide), pj_u_n (by decide), pj_u_n (by decide)]; exact e251
  · rw [pj_u_n h86, pj_u_n h86, pj_u_n h86, pj_u_n h86, pj_u_n h86, pj_u_n h86]
    by_cases e : c = 276
    · subst e
      have t := h6 rfl
      rw [pj_u_j t.2.2.2, pj_u_j t.2.2.1, pj_u_j t.2.1, pj_u_j t.1]
      exact hz1 276 j hc
    · rw [pj_u_n e, pj_u_n e, pj_u_n e, pj_u_n e]
      exact hz1 c j hc
  · rw [pj_u_n (by decide), pj_u_n (by decide), pj_u_n (by decide), pj_u_n (by decide), pj_u_n (by decide), pj_u_n (by decide), pj_u_j (by decide), pj_u_j (by decide), pj_u_e]
  · rcases (show p = 0 ∨ p = 1 ∨ p = 2 by omega) with rfl | rfl | rfl
    · rw [pj_u_j (by decide), pj_u_j (by decide), pj_u_j (by decide), pj_u_j (by decide), pj_u_j (by decide), pj_u_e]
    · rw [pj_u_j (by decide), pj_u_j (by decide), pj_u_j (by decide), pj_u_j (by decide), pj_u_e]
    · rw [pj_u_j (by decide), pj_u_j (by decide), pj_u_j (by decide), pj_u_e]
end PLl
