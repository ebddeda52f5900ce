/-! whether years can come, whether a man is there, whether a coat is on its peg -/
section PAk
variable {n h : Nat} {Q : pj_K} {I : Nat → Nat → Int32} {J : Nat → Nat → Int64} {W : Wk} {L : Ly} {B : Nat}
theorem ge_nat {p : Int32} {a : Nat} (ha : a < 2 ^ 31) (c : ¬ p < nI a) : ∃ j, j < 2 ^ 31 ∧ p = nI j ∧ a ≤ j := by
  have h0 : ¬ p < 0 := fun z => c (Int32.lt_of_lt_of_le z (nI_pos' ha))
  obtain ⟨j, hj, rfl⟩ := nI_of h0
  refine ⟨j, hj, rfl, ?_⟩
  rcases Nat.lt_or_ge j a with q | q
  · exact absurd ((nI_ltI hj ha).mpr q) c
  · exact q
/-- PegCoats.canCome -/
theorem s127 (hh : 1 ≤ h) {p : Int32} {a b y : Nat} (hy : I 35 7 = nI y) (hy2 : y ≤ 999) (ha : a ≤ 100) (hb : b ≤ 100) (q1 : ∀ m, a ≤ m → m ≤ b → y + m ≤ 999 → p = nI m → Q (some (.int 1)) (zc n, I, J)) (q2 : (∀ m, a ≤ m → m ≤ b → y + m ≤ 999 → p ≠ nI m) → Q (some (.int 0)) (zc n, I, J)) : pj_D h 127 [.ref 2, .int p, .int (nI a), .int (nI b)] (zc n, I, J) Q := by
  refine pj_ent (g := 0) hh (t := mt_127) rfl rfl (v127_0 (pj_D_le 0) I J _ _ _ ⟨fun c => q2 (fun m h1 h2 h3 e => ?_), fun c => ?_⟩)
  · rw [e] at c
    exact nI_nlt h1 (by omega) c
  · obtain ⟨j, hj, rfl, haj⟩ := ge_nat (by omega) c
    refine pk_lt b j (fun c => q2 (fun m h1 h2 h3 e => ?_)) (fun c => ?_)
    · have := (nI_eq hj (by omega)).mp e
      omega
    · rw [hy, nI_add]
      refine pk_lt 999 (y + j) (fun c2 => q2 (fun m h1 h2 h3 e => ?_)) (fun c2 => q1 j haj c c2 rfl)
      have := (nI_eq hj (by omega)).mp e
      omega
/-- PegCoatsModel.isAhead -/
theorem s224 (hh : 2 ≤ h) {p : Int32} {a b y : Nat} (hy : I 299 0 = nI y) (hy2 : y ≤ 999) (ha : a ≤ 100) (hb : b ≤ 100) (q1 : ∀ m, a ≤ m → m ≤ b → y + m ≤ 999 → p = nI m → Q (some (.int 1)) (zc n, I, J)) (q2 : (∀ m, a ≤ m → m ≤ b → y + m ≤ 999 → p ≠ nI m) → Q (some (.int 0)) (zc n, I, J)) : pj_D h 224 [.ref 276, .int p, .int (nI a), .int (nI b)] (zc n, I, J) Q := by
  refine pj_ent (g := 1) hh (t := mt_224) rfl rfl (v224_0 (pj_D_le 1) I J _ _ _ ?_)
  refine s179 (Nat.le_refl 1) (kI_i ?_)
  by_cases c : nI a ≤ p ∧ p ≤ nI b
  · rw [if_pos c]
    refine ⟨fun z => absurd z (by decide), fun _ => ?_⟩
    obtain ⟨j, hj, rfl, haj⟩ := ge_nat (a := a) (by omega) (Int32.not_lt.mpr c.1)
    have hjb : j ≤ b := (nI_leI hj (by omega)).mp c.2
    rw [hy]
    show (nI 999 - nI j < nI y → _) ∧ (¬ nI 999 - nI j < nI y → _)
    rw [pk_sub (by omega)]
    refine pk_lt (999 - j) y (fun c2 => q2 (fun m h1 h2 h3 e => ?_)) (fun c2 => q1 j haj hjb (by omega) rfl)
    have := (nI_eq hj (by omega)).mp e
    omega
  · rw [if_neg c]
    refine ⟨fun _ => q2 (fun m h1 h2 h3 e => c ?_), fun z => absurd rfl z⟩
    rw [e]
    exact ⟨nI_le h1 (by omega), nI_le h2 (by omega)⟩
/-- PegCoats.isPegged -/
theorem s149 (hh : 2 ≤ h) {c : Nat} (hW : WC W 5 I) (hL : LC W 35 L I) (hV : LV W L) (hc : c < W.nc) (q : Q (some (.int (bi (!L.bur c && (wr W L c).isNone)))) (zc n, I, J)) : pj_D h 149 [.ref 2, .int (nI c)] (zc n, I, J) Q := by
  obtain ⟨w1, w2, w3, w4, w5⟩ := hW
  refine pj_ent (g := 1) hh (t := mt_149) rfl rfl (v149_0 (pj_D_le 1) I J _ ⟨pk_in c 8 (by omega), ?_⟩)
  rw [nI_clamp (by omega), (hL.2.1 c hc).2, w4]
  cases e : L.bur c with
  | true => rw [e] at q; exact ⟨fun _ => q, fun z => absurd z (by decide)⟩
  | false =>
    rw [e] at q
    refine ⟨fun z => absurd rfl z, fun _ => s76 (Nat.le_refl 1) (a := 35) (by decide) w2 (kI_i ?_)⟩
    rw [wr_C w1 hL hV (by omega)]
    have hw := wo_none (o := wr W L c) (fun c' hc' => by have := (ff_some hc').2.1; omega)
    cases e2 : wr W L c with
    | none => rw [e2] at q; exact ⟨fun z => absurd rfl z, fun _ => q⟩
    | some c' =>
      rw [e2] at q hw
      exact ⟨fun _ => q, fun z => absurd (hw.mp z) (by intro y; cases y)⟩
end PAk
