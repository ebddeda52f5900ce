/-! constructors of the class: the scanner, the reading -/
/-- a word's number, letter by letter -/
def xv (k : Nat) : Nat → Int32
  | 0 => 0
  | i + 1 => if pj_ow pj_lit (6 * k + i) = 32 then (xv k i <<< ((5 : Int32) &&& 31)) ||| 0 else (xv k i <<< ((5 : Int32) &&& 31)) ||| (pj_ow pj_lit (6 * k + i) - 97 + 1)
set_option maxRecDepth 100000 in
theorem xv_o : ∀ k, k < 22 → xv k 6 = owC k := by decide +kernel
section PCe
variable {n h : Nat} {Q : pj_K} {I : Nat → Nat → Int32} {J : Nat → Nat → Int64}
theorem w63_60 {C : pj_CT} (hC : pj_le C C) {Z : pj_Z} (q2 q3 q4 : Int32) (h : ((6 ≤ q4 → pj_R C ta mc_63 false Q 110 [some (.ref 32), none, some (.int q2), some (.int q3), none, none] [] Z I J 0 0) ∧ (¬ 6 ≤ q4 → (vp_in (q2 * 6 + q4) 132 ∧ ((¬ pj_ow pj_lit (q2 * 6 + q4).toNatClampNeg = 32 → pj_R C ta mc_63 false Q 60 [some (.ref 32), none, some (.int q2), some (.int ((q3 <<< ((5 : Int32) &&& 31)) ||| (pj_ow pj_lit (q2 * 6 + q4).toNatClampNeg - 97 + 1))), some (.int (q4 + 1)), none] [] Z I J 0 0) ∧ (pj_ow pj_lit (q2 * 6 + q4).toNatClampNeg = 32 → pj_R C ta mc_63 false Q 60 [some (.ref 32), none, some (.int q2), some (.int ((q3 <<< ((5 : Int32) &&& 31)) ||| 0)), some (.int (q4 + 1)), none] [] Z I J 0 0)))))) : pj_R C ta mc_63 false Q 60 [some (.ref 32), none, some (.int q2), some (.int q3), some (.int q4), none] [] Z I J 0 0 :=
  pj_go hC (fun pc => pc == 60 || pc == 110) 3000 (And.intro (fun c1 => (pj_R_g hC (h.1 c1) (And.intro rfl (And.intro rfl (And.intro rfl trivial))))) (fun c1 => (And.intro (h.2 c1).1 (And.intro (fun c2 => (pj_R_g hC ((h.2 c1).2.1 c2) (And.intro rfl (And.intro rfl (And.intro rfl (And.intro rfl trivial)))))) (fun c2 => (pj_R_g hC ((h.2 c1).2.2 c2) (And.intro rfl (And.intro rfl (And.intro rfl (And.intro rfl trivial))))))))))
theorem w63_110 {C : pj_CT} (hC : pj_le C C) {D : List (Nat × Nat)} (q2 q3 : Int32) (h : vp_in q2 22 ∧ pj_R C ta mc_63 false Q 49 [some (.ref 32), none, some (.int (q2 + 1)), none, none, none] [] (zs n 34 ((32, 3) :: D)) (pj_u I 33 q2.toNatClampNeg q3) J 0 0) : pj_R C ta mc_63 false Q 110 [some (.ref 32), none, some (.int q2), some (.int q3), none, none] [] (zs n 34 ((32, 3) :: D)) I J 0 0 :=
  pj_go hC (fun pc => pc == 49) 3000 (And.intro h.1 (pj_R_g hC h.2 (And.intro rfl (And.intro rfl trivial))))
theorem w63_49 {C : pj_CT} (hC : pj_le C C) {Z : pj_Z} (q2 : Int32) (h : (22 ≤ q2 → Q none (Z, I, J)) ∧ (¬ 22 ≤ q2 → pj_R C ta mc_63 false Q 60 [some (.ref 32), none, some (.int q2), some (.int 0), some (.int 0), none] [] Z I J 0 0)) : pj_R C ta mc_63 false Q 49 [some (.ref 32), none, some (.int q2), none, none, none] [] Z I J 0 0 :=
  pj_go hC (fun pc => pc == 60) 3000 (And.intro (fun c => h.1 c) (fun c => h.2 c))
/-- Scanner.<init> -/
theorem k63_32 (hh : 1 ≤ h) {D : List (Nat × Nat)} (hD : zle D 32 = true) (hz : ∀ c j, 32 ≤ c → I c j = 0) (hj : ∀ c j, 32 ≤ c → J c j = 0) (q : ∀ I', (∀ c j, c ≠ 33 → I' c j = (pj_u I 32 4 (-1)) c j) → (∀ k, k < 22 → I' 33 k = owC k) → (∀ k, 22 ≤ k → I' 33 k = 0) → Q none (zs n 34 D, I', J)) : pj_D h 63 [.ref 32, .ref 3] (zs n 33 ((32, 0) :: D), I, J) Q := by
  have hp : ∀ m, 32 < m → ∀ b, zlk ((32, b) :: D) m = none := fun m hm b => by
    show (bif Nat.beq m 32 then some b else zlk D m) = none
    rw [be_f (by omega), zlk_n hD (by omega)]; rfl
  refine pj_ent (g := 0) hh (t := mt_63) rfl rfl ?_
  show pj_R (pj_D 0) ta mc_63 false Q 0 [some (.ref 32), some (.ref 3), none, none, none, none] [] (zs n 33 ((32, 0) :: D)) I J 1 22
  refine pj_go (pj_D_le 0) (fun pc => pc == 9) 40 (pj_cT rfl (pj_cT rfl (pj_Rz (L := [some (.ref 32), some (.ref 3), none, none, none, none]) (st := [.ref 33, .ref 32]) (bc := 0) (bs := 0) (zs_ar rfl rfl rfl (hp 33 (by decide) _)) (va_z (m := 33) (fun j => hz 33 j (by decide))) (va_z (m := 33) (fun j => hj 33 j (by decide))) ?_)))
  refine pj_go (pj_D_le 0) (fun pc => pc == 12) 40 (pj_cT rfl (pj_Rz (L := [some (.ref 32), some (.ref 3), none, none, none, none]) (st := []) (bc := 0) (bs := 0) (zs_as rfl rfl) rfl rfl ?_))
  refine pj_go (pj_D_le 0) (fun pc => pc == 17) 40 (pj_cT rfl (pj_Rz (L := [some (.ref 32), some (.ref 3), none, none, none, none]) (st := []) (bc := 0) (bs := 0) rfl (pj_u_z (hz 32 2 (by decide))) rfl ?_))
  refine pj_go (pj_D_le 0) (fun pc => pc == 22) 40 (pj_cT rfl (pj_Rz (L := [some (.ref 32), some (.ref 3), none, none, none, none]) (st := []) (bc := 0) (bs := 0) rfl (pj_u_z (hz 32 3 (by decide))) rfl ?_))
  refine pj_go (pj_D_le 0) (fun pc => pc == 27) 40 (pj_cT rfl (pj_Rz (L := [some (.ref 32), some (.ref 3), none, none, none, none]) (st := []) (bc := 0) (bs := 0) rfl rfl rfl ?_))
  refine pj_go (pj_D_le 0) (fun pc => pc == 32) 40 (pj_cT rfl (pj_Rz (L := [some (.ref 32), some (.ref 3), none, none, none, none]) (st := []) (bc := 0) (bs := 0) rfl (pj_u_z ((pj_u_j (by decide)).trans (hz 32 5 (by decide)))) rfl ?_))
  refine pj_go (pj_D_le 0) (fun pc => pc == 37) 40 (pj_cT rfl (pj_Rz (L := [some (.ref 32), some (.ref 3), none, none, none, none]) (st := []) (bc := 0) (bs := 0) rfl (pj_u_z ((pj_u_j (by decide)).trans (hz 32 6 (by decide)))) rfl ?_))
  refine pj_go (pj_D_le 0) (fun pc => pc == 42) 40 (pj_cT rfl (pj_Rz (L := [some (.ref 32), some (.ref 3), none, none, none, none]) (st := []) (bc := 0) (bs := 0) rfl (pj_u_z ((pj_u_j (by decide)).trans (hz 32 7 (by decide)))) rfl ?_))
  refine pj_go (pj_D_le 0) (fun pc => pc == 47) 40 (pj_cT rfl (pj_Rz (L := [some (.ref 32), some (.ref 3), none, none, none, none]) (st := []) (bc := 0) (bs := 0) (zs_as rfl rfl) rfl rfl ?_))
  suffices loop : ∀ r k, r + k = 22 → ∀ I', (∀ c j, c ≠ 33 → I' c j = (pj_u I 32 4 (-1)) c j) → (∀ i, i < k → I' 33 i = owC i) → (∀ i, k ≤ i → I' 33 i = 0) → pj_R (pj_D 0) ta mc_63 false Q 49 [some (.ref 32), none, some (.int (nI k)), none, none, none] [] (zs n 34 ((32, 3) :: D)) I' J 0 0 by
    refine pj_go (pj_D_le 0) (fun pc => pc == 49) 40 (pj_R_g (pj_D_le 0) (loop 22 0 rfl _ (fun _ _ _ => rfl) (fun i hi => absurd hi (Nat.not_lt_zero _)) (fun i _ => (pj_u_n (by decide)).trans (hz 33 i (by decide)))) (And.intro rfl (And.intro rfl trivial)))
  intro r
  induction r with
  | zero =>
    intro k hk I' f1 w1 z1
    refine w63_49 (pj_D_le 0) _ (pk_le 22 k (fun _ => ?_) (fun c => by omega))
    rw [zs_pp (a := 32) rfl (zlk_n hD (Nat.le_refl _))]
    exact q I' f1 (fun i hi => w1 i (by omega)) (fun i hi => z1 i (by omega))
  | succ r ih =>
    intro k hk I' f1 w1 z1
    refine w63_49 (pj_D_le 0) _ (pk_le 22 k (fun c => by omega) (fun c => ?_))
    suffices lp : ∀ s i, s + i = 6 → pj_R (pj_D 0) ta mc_63 false Q 60 [some (.ref 32), none, some (.int (nI k)), some (.int (xv k i)), some (.int (nI i)), none] [] (zs n 34 ((32, 3) :: D)) I' J 0 0 from lp 6 0 rfl
    intro s
    induction s with
    | zero =>
      intro i hi
      refine w63_60 (pj_D_le 0) _ _ _ (pk_le 6 i (fun _ => ?_) (fun c => by omega))
      refine w63_110 (pj_D_le 0) _ _ ⟨vp_in_nI (by omega) (by decide), ?_⟩
      rw [nI_clamp (by omega), nI_1, show i = 6 by omega, xv_o k (by omega)]
      refine ih (k + 1) (by omega) _ (fun c j hc => (pj_u_n hc).trans (f1 c j hc)) (fun i hi => ?_) (fun i hi => ?_)
      · by_cases e : i = k
        · rw [e, pj_u_e]
        · rw [pj_u_j e]; exact w1 i (by omega)
      · rw [pj_u_j (by omega)]; exact z1 i (by omega)
    | succ s ih2 =>
      intro i hi
      refine w63_60 (pj_D_le 0) _ _ _ (pk_le 6 i (fun c => by omega) (fun c => ?_))
      rw [show nI k * 6 + nI i = nI (6 * k + i) by rw [show nI k * 6 = nI (k * 6) from pk_mul k 6, nI_add, Nat.mul_comm], nI_clamp (by omega), nI_1]
      refine ⟨vp_in_nI (by omega) (by decide), fun z => ?_, fun z => ?_⟩
      · have t := ih2 (i + 1) (by omega)
        have e : xv k (i + 1) = (xv k i <<< ((5 : Int32) &&& 31)) ||| (pj_ow pj_lit (6 * k + i) - 97 + 1) := if_neg z
        rw [e] at t
        exact t
      · have t := ih2 (i + 1) (by omega)
        have e : xv k (i + 1) = (xv k i <<< ((5 : Int32) &&& 31)) ||| 0 := if_pos z
        rw [e] at t
        exact t
/-- Reading.<init> -/
theorem k35_31 (hh : 2 ≤ h) {D : List (Nat × Nat)} (hD : zle D 31 = true) (hz : ∀ c j, 31 ≤ c → I c j = 0) (hj : ∀ c j, 31 ≤ c → J c j = 0) (q : ∀ I', (∀ c j, c ≠ 33 → I' c j = (pj_u (pj_u I 31 3 (-1)) 32 4 (-1)) c j) → (∀ k, k < 22 → I' 33 k = owC k) → Q none (zs n 34 D, I', J)) : pj_D h 35 [.ref 31, .ref 3, .ref 18] (zs n 32 ((31, 0) :: D), I, J) Q := by
  have hp : ∀ m, 31 < m → ∀ b, zlk ((31, b) :: D) m = none := fun m hm b => by
    show (bif Nat.beq m 31 then some b else zlk D m) = none
    rw [be_f (by omega), zlk_n hD (by omega)]; rfl
  refine pj_ent (g := 1) hh (t := mt_35) rfl rfl ?_
  show pj_R (pj_D 1) ta mc_35 false Q 0 [some (.ref 31), some (.ref 3), some (.ref 18)] [] (zs n 32 ((31, 0) :: D)) I J 2 30
  refine pj_go (pj_D_le 1) (fun pc => pc == 9) 40 (pj_cT rfl (pj_cT rfl (pj_Rz (L := [some (.ref 31), some (.ref 3), some (.ref 18)]) (st := []) (bc := 2) (bs := 30) rfl (pj_u_z (hz 31 2 (by decide))) rfl ?_)))
  refine pj_go (pj_D_le 1) (fun pc => pc == 14) 40 (pj_cT rfl (pj_Rz (L := [some (.ref 31), some (.ref 3), some (.ref 18)]) (st := []) (bc := 2) (bs := 30) rfl rfl rfl ?_))
  refine pj_go (pj_D_le 1) (fun pc => pc == 19) 40 (pj_cT rfl (pj_Rz (L := [some (.ref 31), some (.ref 3), some (.ref 18)]) (st := []) (bc := 2) (bs := 30) rfl (pj_u_z ((pj_u_j (by decide)).trans (hz 31 4 (by decide)))) rfl ?_))
  refine pj_go (pj_D_le 1) (fun pc => pc == 24) 40 (pj_cT rfl (pj_Rz (L := [some (.ref 31), some (.ref 3), some (.ref 18)]) (st := []) (bc := 2) (bs := 30) rfl (pj_u_z ((pj_u_j (by decide)).trans (hz 31 5 (by decide)))) rfl ?_))
  refine pj_go (pj_D_le 1) (fun pc => pc == 28) 40 (pj_cT rfl (pj_Rz (L := [some (.ref 31), some (.ref 3), some (.ref 18)]) (st := [.ref 32, .ref 31]) (bc := 1) (bs := 22) (zs_op rfl rfl) (va_z (m := 32) (fun j => (pj_u_n (by decide)).trans (hz 32 j (by decide)))) (va_z (m := 32) (fun j => hj 32 j (by decide))) ?_))
  refine pj_go (pj_D_le 1) (fun pc => pc == 30) 40 (pj_Rz (L := [some (.ref 31), some (.ref 3), some (.ref 18)]) (st := [.ref 3, .ref 32, .ref 32, .ref 31]) (bc := 1) (bs := 22) rfl rfl rfl ?_)
  refine pj_Rcs (pj_D_le 1) rfl rfl rfl rfl rfl rfl rfl rfl ?_
  refine k63_32 (by decide) (zle_d (zle_m hD (by decide)) (by decide)) (fun c j hc => (pj_u_n (by omega)).trans (hz c j (by omega))) (fun c j hc => hj c j (by omega)) (fun I1 f1 w1 z1 => ?_)
  refine ⟨rfl, ?_⟩
  show pj_R (pj_D 1) ta mc_35 false Q 33 [some (.ref 31), some (.ref 3), some (.ref 18)] [.ref 32, .ref 31] (zs n 34 ((31, 0) :: D)) I1 J 0 0
  refine pj_go (pj_D_le 1) (fun pc => pc == 36) 40 (pj_cT rfl (pj_Rz (L := [some (.ref 31), some (.ref 3), some (.ref 18)]) (st := []) (bc := 0) (bs := 0) (zs_as rfl rfl) rfl rfl ?_))
  refine pj_go (pj_D_le 1) (fun pc => pc == 41) 40 (pj_cT rfl (pj_Rz (L := [some (.ref 31), some (.ref 3), some (.ref 18)]) (st := []) (bc := 0) (bs := 0) (zs_as rfl rfl) rfl rfl ?_))
  refine pj_go (pj_D_le 1) (fun _ => false) 40 (pj_cT rfl ?_)
  show Q none ((zs n 34 ((31, 3) :: D)), I1, J)
  rw [zs_pp (a := 31) rfl (zlk_n hD (Nat.le_refl _))]
  exact q I1 f1 w1
/-- State.begin, of nothing -/
theorem k71 (hh : 1 ≤ h) {D : List (Nat × Nat)} (h12 : I 5 12 = 0) (h13 : I 5 13 = 0) (h7 : I 35 7 = 0) (h8 : I 35 8 = 0) (q : Q none (zs n 276 D, I, J)) : pj_D h 71 [.ref 35, .ref 5] (zs n 276 D, I, J) Q := by
  refine pj_ent (g := 0) hh (t := mt_71) rfl rfl ?_
  show pj_R (pj_D 0) ta mc_71 false Q 0 [some (.ref 35), some (.ref 5), none] [] (zs n 276 D) I J 0 0
  refine pj_go (pj_D_le 0) (fun pc => pc == 5) 40 (pj_cT rfl (pj_Rz (L := [some (.ref 35), some (.ref 5), none]) (st := []) (bc := 0) (bs := 0) rfl (pj_u_z h7) rfl ?_))
  refine pj_go (pj_D_le 0) (fun pc => pc == 12) 40 (pj_cT rfl (pj_Rz (L := [some (.ref 35), some (.ref 5), some (.int 0)]) (st := []) (bc := 0) (bs := 0) rfl (pj_u_z h8) rfl ?_))
  refine pj_go (pj_D_le 0) (fun pc => pc == 55) 40 (pj_cT rfl (And.intro (fun _ => pj_Rz (L := [some (.ref 35), some (.ref 5), some (.int 0)]) (st := []) (bc := 0) (bs := 0) rfl rfl rfl ?_) (fun c => absurd (by rw [h12]; decide) c)))
  exact pj_go (pj_D_le 0) (fun _ => false) 40 (pj_cT rfl (And.intro (fun _ => pj_cT rfl q) (fun c => absurd (by rw [h13]; decide) c)))
end PCe
