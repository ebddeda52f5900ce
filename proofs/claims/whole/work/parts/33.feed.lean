/-! calls: feed, end, fault, seed, status -/
section PF
variable {n h : Nat} {Q : pj_K} {I : Nat → Nat → Int32} {J : Nat → Nat → Int64}
theorem s112 (hh : 1 ≤ h) {k : Nat} (hk : k < 6) (q : Q (some (.int (-1))) (zc n, pj_u I 275 k (I 275 k + 1), J)) : pj_D h 112 [.ref 2, .int (nI k)] (zc n, I, J) Q :=
  pj_ent (g := 0) hh (t := mt_112) rfl rfl (v112_0 (pj_D_le 0) I J _ ⟨vp_in_nI hk (by decide), vp_in_nI hk (by decide), by rw [nI_clamp (by omega)]; exact q⟩)
theorem s114 (hh : 1 ≤ h) {k : Nat} (hk : k < 6) (q : Q (some (.int 0)) (zc n, pj_u I 275 k (I 275 k + 1), J)) : pj_D h 114 [.ref 2, .int (nI k)] (zc n, I, J) Q :=
  pj_ent (g := 0) hh (t := mt_114) rfl rfl (v114_0 (pj_D_le 0) I J _ ⟨vp_in_nI hk (by decide), vp_in_nI hk (by decide), by rw [nI_clamp (by omega)]; exact q⟩)
theorem s160 (hh : 1 ≤ h) {k : Nat} (hk : k < 6) (q : Q (some (.int (-1))) (zc n, pj_u I 298 k (I 298 k + 1), J)) : pj_D h 160 [.ref 276, .int (nI k)] (zc n, I, J) Q :=
  pj_ent (g := 0) hh (t := mt_160) rfl rfl (v160_0 (pj_D_le 0) I J _ ⟨vp_in_nI hk (by decide), vp_in_nI hk (by decide), by rw [nI_clamp (by omega)]; exact q⟩)
/-- Tape.hasRoom, cut, at, clear -/
theorem s82 (hh : 1 ≤ h) {L m : Nat} (hI : I 3 1 = nI L) (hL : L ≤ 1600) (hm : m ≤ 1600) (q : Q (some (.int (if L + m ≤ 1600 then 1 else 0))) (zc n, I, J)) : pj_D h 82 [.ref 3, .int (nI m)] (zc n, I, J) Q := by
  refine pj_ent (g := 0) hh (t := mt_82) rfl rfl (v82_0 (pj_D_le 0) I J _ ?_)
  rw [hI, nI_add, nI_ltI (by decide) (by omega)]
  by_cases c : L + m ≤ 1600
  · rw [if_pos c] at q
    exact ⟨fun z => absurd z (by omega), fun _ => q⟩
  · rw [if_neg c] at q
    exact ⟨fun _ => q, fun z => absurd (by omega) z⟩
theorem s84 (hh : 1 ≤ h) {L : Nat} {p : Int32} (hI : I 3 1 = nI L) (hL : L ≤ 1600) (q1 : ∀ m, m ≤ L → p = nI m → Q (some (.int 1)) (zc n, pj_u I 3 1 (nI m), J)) (q2 : (p < 0 ∨ ¬ p ≤ nI L) → Q (some (.int 0)) (zc n, I, J)) : pj_D h 84 [.ref 3, .int p] (zc n, I, J) Q := by
  refine pj_ent (g := 0) hh (t := mt_84) rfl rfl (v84_0 (pj_D_le 0) I J _ ?_)
  rw [hI]
  refine ⟨fun c => q2 (Or.inl c), fun c => ⟨fun c2 => ?_, fun c2 => q2 (Or.inr c2)⟩⟩
  obtain ⟨j, hj, rfl⟩ := nI_of c
  exact q1 j ((nI_leI hj (by omega)).mp c2) rfl
theorem s86 (hh : 1 ≤ h) (q : Q none (zc n, pj_u I 3 1 0, J)) : pj_D h 86 [.ref 3] (zc n, I, J) Q :=
  pj_ent (g := 0) hh (t := mt_86) rfl rfl (v86_0 (pj_D_le 0) I J q)
theorem s85 (hh : 1 ≤ h) {L k : Nat} (hI : I 3 1 = nI L) (hL : L ≤ 1600) (hk : k < 2 ^ 31) (q : Q (some (.int (if k < L then I 4 k else -1))) (zc n, I, J)) : pj_D h 85 [.ref 3, .int (nI k)] (zc n, I, J) Q := by
  refine pj_ent (g := 0) hh (t := mt_85) rfl rfl (v85_0 (pj_D_le 0) I J _ ?_)
  rw [hI, nI_clamp hk, nI_ltI hk (by omega)]
  refine ⟨fun c => absurd c (nI_pos hk), fun _ => ?_⟩
  by_cases c : k < L
  · rw [if_pos c] at q
    exact ⟨fun _ => ⟨vp_in_nI (by omega) (by decide), q⟩, fun z => absurd c z⟩
  · rw [if_neg c] at q
    exact ⟨fun z => absurd z c, fun _ => q⟩
/-- five ints on the tape -/
def b5 (p : Nat → Int32) (j : Nat) : Int32 := byv (p (j / 4)) (j % 4)
def fdS (o b : Nat) : Nat → Nat → Bool := fun a j => a == b || a == o && j == 1
def fd (o b : Nat) (p : Nat → Int32) (L i : Nat) (I I' : Nat → Nat → Int32) : Prop := I' o 1 = nI (L + 4 * i) ∧ (∀ j, j < 4 * i → I' b (L + j) = b5 p j) ∧ (∀ j, j < L → I' b j = I b j) ∧ pj_fr (fdS o b) I I'
theorem fd_0 {o b : Nat} {p : Nat → Int32} {L : Nat} (h : I o 1 = nI L) : fd o b p L 0 I I := ⟨h, fun j hj => by omega, fun j _ => rfl, pj_fr_rf⟩
theorem fd_s {o b : Nat} {p : Nat → Int32} {L i : Nat} {I1 I2 : Nat → Nat → Int32} (h : fd o b p L i I I1) (a1 : I2 o 1 = nI (L + 4 * i + 4)) (a2 : ∀ j, j < 4 → I2 b (L + 4 * i + j) = byv (p i) j) (a3 : ∀ j, j < L + 4 * i → I2 b j = I1 b j) (a4 : pj_fr (fdS o b) I1 I2) : fd o b p L (i + 1) I I2 := by
  obtain ⟨h1, h2, h3, h4⟩ := h
  refine ⟨by rw [a1]; congr 1, fun j hj => ?_, fun j hj => (a3 j (by omega)).trans (h3 j hj), pj_fr_tr h4 a4⟩
  by_cases c : j < 4 * i
  · rw [a3 _ (by omega), h2 j c]
  · have e1 : j / 4 = i := by omega
    have e2 : L + j = L + 4 * i + j % 4 := by omega
    rw [e2, a2 _ (by omega)]
    unfold b5
    rw [e1]
/-- PegCoats.feed -/
theorem s111 (hh : 2 ≤ h) {L : Nat} {p : Nat → Int32} (hI : I 3 1 = nI L) (hL : L ≤ 1600) (q1 : L + 20 ≤ 1600 → ∀ I', fd 3 4 p L 5 I I' → Q (some (.int (nI (L + 20)))) (zc n, I', J)) (q2 : ¬ L + 20 ≤ 1600 → Q (some (.int (-1))) (zc n, pj_u I 275 0 (I 275 0 + 1), J)) :
    pj_D h 111 [.ref 2, .int (p 0), .int (p 1), .int (p 2), .int (p 3), .int (p 4)] (zc n, I, J) Q := by
  refine pj_ent (g := 1) hh (t := mt_111) rfl rfl (v111_0 (pj_D_le 1) I J _ _ _ _ _ ?_)
  refine s82 (Nat.le_refl 1) (m := 20) hI hL (by decide) (kI_i ?_)
  by_cases c : L + 20 ≤ 1600
  · rw [if_pos c]
    refine ⟨fun _ => ?_, fun z => absurd z (by decide)⟩
    refine s83 (Nat.le_refl 1) (L := L) hI (by omega) (fun I1 a1 a2 a3 a4 => kV_i ?_)
    have f1 := fd_s (p := p) (fd_0 (o := 3) (b := 4) hI) a1 a2 a3 a4
    refine s83 (Nat.le_refl 1) (L := L + 4) f1.1 (by omega) (fun I2 a1 a2 a3 a4 => kV_i ?_)
    have f2 := fd_s f1 a1 a2 a3 a4
    refine s83 (Nat.le_refl 1) (L := L + 8) f2.1 (by omega) (fun I3 a1 a2 a3 a4 => kV_i ?_)
    have f3 := fd_s f2 a1 a2 a3 a4
    refine s83 (Nat.le_refl 1) (L := L + 12) f3.1 (by omega) (fun I4 a1 a2 a3 a4 => kV_i ?_)
    have f4 := fd_s f3 a1 a2 a3 a4
    refine s83 (Nat.le_refl 1) (L := L + 16) f4.1 (by omega) (fun I5 a1 a2 a3 a4 => kV_i ?_)
    have f5 := fd_s f4 a1 a2 a3 a4
    rw [f5.1]
    exact q1 c I5 f5
  · rw [if_neg c]
    exact ⟨fun z => absurd rfl z, fun _ => s112 (Nat.le_refl 1) (k := 0) (by decide) (kI_i (q2 c))⟩
/-- PegCoatsModel.feed -/
theorem s159 (hh : 2 ≤ h) {L : Nat} {p : Nat → Int32} (hI : I 276 1 = nI L) (hL : L ≤ 1600) (q1 : L + 20 ≤ 1600 → ∀ I', fd 276 277 p L 5 I I' → Q (some (.int (nI (L + 20)))) (zc n, I', J)) (q2 : ¬ L + 20 ≤ 1600 → Q (some (.int (-1))) (zc n, pj_u I 298 0 (I 298 0 + 1), J)) :
    pj_D h 159 [.ref 276, .int (p 0), .int (p 1), .int (p 2), .int (p 3), .int (p 4)] (zc n, I, J) Q := by
  refine pj_ent (g := 1) hh (t := mt_159) rfl rfl (v159_0 (pj_D_le 1) I J _ _ _ _ _ ?_)
  have e0 : I 276 1 + 20 ≤ 1600 ↔ L + 20 ≤ 1600 := by
    rw [hI]
    show nI L + nI 20 ≤ nI 1600 ↔ _
    rw [nI_add, nI_leI (by omega) (by decide)]
  rw [e0]
  by_cases c : L + 20 ≤ 1600
  · refine br_t c ?_
    refine s161 (Nat.le_refl 1) (L := L) hI (by omega) (fun I1 a1 a2 a3 a4 => kV_i ?_)
    have f1 := fd_s (p := p) (fd_0 (o := 276) (b := 277) hI) a1 a2 a3 a4
    refine s161 (Nat.le_refl 1) (L := L + 4) f1.1 (by omega) (fun I2 a1 a2 a3 a4 => kV_i ?_)
    have f2 := fd_s f1 a1 a2 a3 a4
    refine s161 (Nat.le_refl 1) (L := L + 8) f2.1 (by omega) (fun I3 a1 a2 a3 a4 => kV_i ?_)
    have f3 := fd_s f2 a1 a2 a3 a4
    refine s161 (Nat.le_refl 1) (L := L + 12) f3.1 (by omega) (fun I4 a1 a2 a3 a4 => kV_i ?_)
    have f4 := fd_s f3 a1 a2 a3 a4
    refine s161 (Nat.le_refl 1) (L := L + 16) f4.1 (by omega) (fun I5 a1 a2 a3 a4 => kV_i ?_)
    have f5 := fd_s f4 a1 a2 a3 a4
    rw [f5.1]
    exact q1 c I5 f5
  · exact br_f c (s160 (Nat.le_refl 1) (k := 0) (by decide) (kI_i (q2 c)))
/-- PegCoats.end, PegCoatsModel.end -/
theorem s113 (hh : 2 ≤ h) {L : Nat} {p : Int32} (hI : I 3 1 = nI L) (hL : L ≤ 1600) (q1 : ∀ m, m ≤ L → p = nI m → Q (some (.int 1)) (zc n, pj_u I 3 1 (nI m), J)) (q2 : (p < 0 ∨ ¬ p ≤ nI L) → Q (some (.int 0)) (zc n, pj_u I 275 0 (I 275 0 + 1), J)) : pj_D h 113 [.ref 2, .int p] (zc n, I, J) Q := by
  refine pj_ent (g := 1) hh (t := mt_113) rfl rfl (v113_0 (pj_D_le 1) I J _ ?_)
  refine s84 (Nat.le_refl 1) hI hL (fun m hm e => kI_i ⟨fun _ => q1 m hm e, fun z => absurd z (by decide)⟩) (fun c => kI_i ⟨fun z => absurd rfl z, fun _ => ?_⟩)
  exact s114 (Nat.le_refl 1) (k := 0) (by decide) (kI_i ⟨fun _ => q2 c, fun z => absurd rfl z⟩)
theorem s162 (hh : 2 ≤ h) {L : Nat} {p : Int32} (hI : I 276 1 = nI L) (hL : L ≤ 1600) (q1 : ∀ m, m ≤ L → p = nI m → Q (some (.int 1)) (zc n, pj_u I 276 1 (nI m), J)) (q2 : (p < 0 ∨ ¬ p ≤ nI L) → Q (some (.int 0)) (zc n, pj_u I 298 0 (I 298 0 + 1), J)) : pj_D h 162 [.ref 276, .int p] (zc n, I, J) Q := by
  refine pj_ent (g := 1) hh (t := mt_162) rfl rfl (v162_0 (pj_D_le 1) I J _ ?_)
  rw [hI]
  refine ⟨fun c => s160 (Nat.le_refl 1) (k := 0) (by decide) (kI_i ⟨fun _ => q2 (Or.inl c), fun z => absurd (by decide) z⟩), fun c => ⟨fun c2 => ?_, fun c2 => s160 (Nat.le_refl 1) (k := 0) (by decide) (kI_i ⟨fun _ => q2 (Or.inr c2), fun z => absurd (by decide) z⟩)⟩⟩
  obtain ⟨j, hj, rfl⟩ := nI_of c
  exact q1 j ((nI_leI hj (by omega)).mp c2) rfl
/-- fault -/
theorem s116 (hh : 1 ≤ h) {p : Int32} (q : Q (some (.int (if p = 0 then I 31 2 else if p = 1 then I 31 3 else -1))) (zc n, I, J)) : pj_D h 116 [.ref 2, .int p] (zc n, I, J) Q := by
  refine pj_ent (g := 0) hh (t := mt_116) rfl rfl (v116_0 (pj_D_le 0) I J _ ?_)
  refine ⟨fun c => by rw [if_pos c] at q; exact q, fun c => ?_⟩
  rw [if_neg c] at q
  exact ⟨fun c => by rw [if_pos c] at q; exact q, fun c => by rw [if_neg c] at q; exact q⟩
theorem s200 (hh : 1 ≤ h) {p : Int32} (q : Q (some (.int (if p = 0 then I 276 10 else if p = 1 then I 276 11 else -1))) (zc n, I, J)) : pj_D h 200 [.ref 276, .int p] (zc n, I, J) Q := by
  refine pj_ent (g := 0) hh (t := mt_200) rfl rfl (v200_0 (pj_D_le 0) I J _ ?_)
  refine ⟨fun c => ?_, fun c => by rw [if_pos c] at q; exact q⟩
  rw [if_neg c] at q
  exact ⟨fun c => by rw [if_neg c] at q; exact q, fun c => by rw [if_pos c] at q; exact q⟩
/-- is, status -/
theorem s179 (hh : 1 ≤ h) {a b c : Int32} (q : Q (some (.int (if b ≤ a ∧ a ≤ c then 1 else 0))) (zc n, I, J)) : pj_D h 179 [.int a, .int b, .int c] (zc n, I, J) Q := by
  refine pj_ent (g := 0) hh (t := mt_179) rfl rfl (v179_0 (pj_D_le 0) I J _ _ _ ?_)
  refine ⟨fun z => ?_, fun z => ⟨fun w => ?_, fun w => ?_⟩⟩
  · rw [if_neg (fun y => Int32.not_le.mpr z y.1)] at q; exact q
  · rw [if_neg (fun y => Int32.not_le.mpr w y.2)] at q; exact q
  · rw [if_pos ⟨Int32.not_lt.mp z, Int32.not_lt.mp w⟩] at q; exact q
theorem s157 (hh : 1 ≤ h) {p : Int32} (q1 : ∀ m, m < 6 → p = nI m → Q (some (.int (I 275 m))) (zc n, I, J)) (q2 : ¬ (0 ≤ p ∧ p ≤ 5) → Q (some (.int (-1))) (zc n, I, J)) : pj_D h 157 [.ref 2, .int p] (zc n, I, J) Q := by
  refine pj_ent (g := 0) hh (t := mt_157) rfl rfl (v157_0 (pj_D_le 0) I J _ ?_)
  refine ⟨fun c => q2 (fun z => Int32.not_le.mpr c z.1), fun c => ⟨fun c2 => ?_, fun c2 => q2 (fun z => c2 ?_)⟩⟩
  · obtain ⟨j, hj, rfl⟩ := nI_of c
    have hj6 : j < 6 := (nI_ltI hj (by decide)).mp c2
    rw [nI_clamp hj]
    exact ⟨vp_in_nI hj6 (by decide), q1 j hj6 rfl⟩
  · obtain ⟨j, hj, rfl⟩ := nI_of c
    have h5 : j ≤ 5 := (nI_leI hj (by decide)).mp z.2
    show nI j < nI 6
    exact (nI_ltI hj (by decide)).mpr (Nat.lt_succ_of_le h5)
theorem s201 (hh : 2 ≤ h) {p : Int32} (q1 : ∀ m, m < 6 → p = nI m → Q (some (.int (I 298 m))) (zc n, I, J)) (q2 : ¬ (0 ≤ p ∧ p ≤ 5) → Q (some (.int (-1))) (zc n, I, J)) : pj_D h 201 [.ref 276, .int p] (zc n, I, J) Q := by
  refine pj_ent (g := 1) hh (t := mt_201) rfl rfl (v201_0 (pj_D_le 1) I J _ ?_)
  refine s179 (Nat.le_refl 1) (kI_i ?_)
  by_cases c : 0 ≤ p ∧ p ≤ 5
  · rw [if_pos c]
    refine ⟨fun z => absurd z (by decide), fun _ => ?_⟩
    obtain ⟨j, hj, rfl⟩ := nI_of (Int32.not_lt.mpr c.1)
    have h5 : j ≤ 5 := (nI_leI hj (by decide)).mp c.2
    rw [nI_clamp hj]
    exact ⟨vp_in_nI (by omega) (by decide), q1 j (by omega) rfl⟩
  · rw [if_neg c]
    exact ⟨fun _ => q2 c, fun z => absurd rfl z⟩
/-- seed -/
theorem s152 (hh : 2 ≤ h) {p : Int32} (q1 : 0 ≤ p → Q (some (.int 1)) (zc n, pj_u I 2 15 p, J)) (q2 : ¬ 0 ≤ p → Q (some (.int 0)) (zc n, pj_u I 275 5 (I 275 5 + 1), J)) : pj_D h 152 [.ref 2, .int p] (zc n, I, J) Q := by
  refine pj_ent (g := 1) hh (t := mt_152) rfl rfl (v152_0 (pj_D_le 1) I J _ ⟨q1, fun c => ?_⟩)
  exact s114 (Nat.le_refl 1) (k := 5) (by decide) (kI_i ⟨by decide, q2 c⟩)
theorem s257 (hh : 2 ≤ h) {p : Int32} (q1 : 0 ≤ p → Q (some (.int 1)) (zc n, I, pj_u J 276 54 p.toInt64)) (q2 : ¬ 0 ≤ p → Q (some (.int 0)) (zc n, pj_u I 298 5 (I 298 5 + 1), J)) : pj_D h 257 [.ref 276, .int p] (zc n, I, J) Q := by
  refine pj_ent (g := 1) hh (t := mt_257) rfl rfl (v257_0 (pj_D_le 1) I J _ ⟨q1, fun c => ?_⟩)
  exact s160 (Nat.le_refl 1) (k := 5) (by decide) (kI_i ⟨fun _ => q2 c, fun z => absurd (by decide) z⟩)
end PF
