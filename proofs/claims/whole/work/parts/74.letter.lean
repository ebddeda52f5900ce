/-! letter, glad -/
theorem lN_shr {a : Nat} (h : a < 2 ^ 63) (s : Int64) (k : Nat) (hs : (s.toBitVec.smod 64).toNat = k) : lN a >>> s = lN (a / 2 ^ k) := by
  apply Int64.toInt_inj.mp
  have h2 : a / 2 ^ k ≤ a := Nat.div_le_self _ _
  have e : (lN a >>> s).toInt = (lN a).toInt >>> k := by
    show ((lN a).toBitVec.sshiftRight (s.toBitVec.smod 64).toNat).toInt = _
    rw [hs, BitVec.toInt_sshiftRight]
    rfl
  rw [e, lN_tI h, lN_tI (by omega), Int.shiftRight_eq_div_pow]
  rfl
theorem lN_and255 {a : Nat} (ha : a < 2 ^ 63) : lN a &&& 255 = lN (a % 256) := by
  apply Int64.toBitVec_inj.mp
  rw [Int64.toBitVec_and]
  show BitVec.ofNat 64 a &&& BitVec.ofNat 64 255 = BitVec.ofNat 64 (a % 256)
  apply BitVec.eq_of_toNat_eq
  rw [BitVec.toNat_and, BitVec.toNat_ofNat, BitVec.toNat_ofNat, BitVec.toNat_ofNat, Nat.mod_eq_of_lt (show a < 2 ^ 64 by omega), Nat.mod_eq_of_lt (show 255 < 2 ^ 64 by decide)]
  have h1 : a % 256 < 2 ^ 64 := Nat.lt_of_lt_of_le (Nat.mod_lt _ (by decide)) (by decide)
  rw [Nat.mod_eq_of_lt h1]
  exact Nat.and_two_pow_sub_one_eq_mod a 8
/-- a name is of one to six letters -/
theorem nm_cases {l : List Nat} (h1 : 1 ≤ l.length) (h2 : l.length ≤ 6) : (∃ a, l = [a]) ∨ (∃ a b, l = [a, b]) ∨ (∃ a b c, l = [a, b, c]) ∨ (∃ a b c d, l = [a, b, c, d]) ∨ (∃ a b c d e, l = [a, b, c, d, e]) ∨ ∃ a b c d e f, l = [a, b, c, d, e, f] := by
  match l with
  | [] => simp at h1
  | [a] => exact Or.inl ⟨a, rfl⟩
  | [a, b] => exact Or.inr (Or.inl ⟨a, b, rfl⟩)
  | [a, b, c] => exact Or.inr (Or.inr (Or.inl ⟨a, b, c, rfl⟩))
  | [a, b, c, d] => exact Or.inr (Or.inr (Or.inr (Or.inl ⟨a, b, c, d, rfl⟩)))
  | [a, b, c, d, e] => exact Or.inr (Or.inr (Or.inr (Or.inr (Or.inl ⟨a, b, c, d, e, rfl⟩))))
  | [a, b, c, d, e, f] => exact Or.inr (Or.inr (Or.inr (Or.inr (Or.inr ⟨a, b, c, d, e, f, rfl⟩))))
  | a :: b :: c :: d :: e :: f :: g :: r => simp at h2
def f32 (l : List Nat) : Nat := l.foldl (fun x y => 32 * x + y) 0 * 32 ^ (6 - l.length)
def f256 (l : List Nat) : Nat := l.foldl (fun x y => 256 * x + (96 + y)) 0
theorem f32_d {l : List Nat} {k : Nat} (h : nmV l) (hk : k < 6) : f32 l < 2 ^ 30 ∧ f32 l / 2 ^ (5 * (5 - k)) % 32 = l.getD k 0 := by
  obtain ⟨h1, h2, h3⟩ := h
  rcases nm_cases h1 h2 with ⟨a, rfl⟩ | ⟨a, b, rfl⟩ | ⟨a, b, c, rfl⟩ | ⟨a, b, c, d, rfl⟩ | ⟨a, b, c, d, e, rfl⟩ | ⟨a, b, c, d, e, f, rfl⟩
  all_goals
    simp only [List.mem_cons, List.not_mem_nil, or_false, forall_eq_or_imp, forall_eq] at h3
    obtain rfl | rfl | rfl | rfl | rfl | rfl : k = 0 ∨ k = 1 ∨ k = 2 ∨ k = 3 ∨ k = 4 ∨ k = 5 := by omega
  all_goals
    simp only [f32, List.foldl, List.length, List.getD_cons_zero, List.getD_cons_succ, List.getD_nil, Nat.reduceSub, Nat.reduceMul, Nat.reducePow, Nat.reduceAdd]
    omega
/-- how many bytes -/
def bl : Nat → Nat → Nat
  | 0, _ => 0
  | r + 1, x => if x = 0 then 0 else bl r (x / 256) + 1
theorem f256_d {l : List Nat} (h : nmV l) : f256 l < 2 ^ 48 ∧ bl 6 (f256 l) = l.length ∧ f256 l / 256 / 256 / 256 / 256 / 256 / 256 = 0 ∧ ∀ k, k < l.length → f256 l / 2 ^ (8 * (l.length - 1 - k)) % 256 = 96 + l.getD k 0 := by
  obtain ⟨h1, h2, h3⟩ := h
  rcases nm_cases h1 h2 with ⟨a, rfl⟩ | ⟨a, b, rfl⟩ | ⟨a, b, c, rfl⟩ | ⟨a, b, c, d, rfl⟩ | ⟨a, b, c, d, e, rfl⟩ | ⟨a, b, c, d, e, f, rfl⟩
  all_goals
    simp only [List.mem_cons, List.not_mem_nil, or_false, forall_eq_or_imp, forall_eq] at h3
    simp only [f256, List.foldl, List.length]
    refine ⟨by omega, ?_, by omega, fun k hk => ?_⟩
  · unfold bl; rw [if_neg (by omega)]; unfold bl; rw [if_pos (by omega)]
  · obtain rfl : k = 0 := by omega
    simp only [List.getD_cons_zero, List.getD_cons_succ, List.getD_nil, Nat.reduceSub, Nat.reduceMul, Nat.reducePow, Nat.reduceAdd]
    omega
  · unfold bl; rw [if_neg (by omega)]; unfold bl; rw [if_neg (by omega)]; unfold bl; rw [if_pos (by omega)]
  · obtain rfl | rfl : k = 0 ∨ k = 1 := by omega
    all_goals
      simp only [List.getD_cons_zero, List.getD_cons_succ, List.getD_nil, Nat.reduceSub, Nat.reduceMul, Nat.reducePow, Nat.reduceAdd]
      omega
  · unfold bl; rw [if_neg (by omega)]; unfold bl; rw [if_neg (by omega)]; unfold bl; rw [if_neg (by omega)]; unfold bl; rw [if_pos (by omega)]
  · obtain rfl | rfl | rfl : k = 0 ∨ k = 1 ∨ k = 2 := by omega
    all_goals
      simp only [List.getD_cons_zero, List.getD_cons_succ, List.getD_nil, Nat.reduceSub, Nat.reduceMul, Nat.reducePow, Nat.reduceAdd]
      omega
  · unfold bl; rw [if_neg (by omega)]; unfold bl; rw [if_neg (by omega)]; unfold bl; rw [if_neg (by omega)]; unfold bl; rw [if_neg (by omega)]; unfold bl; rw [if_pos (by omega)]
  · obtain rfl | rfl | rfl | rfl : k = 0 ∨ k = 1 ∨ k = 2 ∨ k = 3 := by omega
    all_goals
      simp only [List.getD_cons_zero, List.getD_cons_succ, List.getD_nil, Nat.reduceSub, Nat.reduceMul, Nat.reducePow, Nat.reduceAdd]
      omega
  · unfold bl; rw [if_neg (by omega)]; unfold bl; rw [if_neg (by omega)]; unfold bl; rw [if_neg (by omega)]; unfold bl; rw [if_neg (by omega)]; unfold bl; rw [if_neg (by omega)]; unfold bl; rw [if_pos (by omega)]
  · obtain rfl | rfl | rfl | rfl | rfl : k = 0 ∨ k = 1 ∨ k = 2 ∨ k = 3 ∨ k = 4 := by omega
    all_goals
      simp only [List.getD_cons_zero, List.getD_cons_succ, List.getD_nil, Nat.reduceSub, Nat.reduceMul, Nat.reducePow, Nat.reduceAdd]
      omega
  · unfold bl; rw [if_neg (by omega)]; unfold bl; rw [if_neg (by omega)]; unfold bl; rw [if_neg (by omega)]; unfold bl; rw [if_neg (by omega)]; unfold bl; rw [if_neg (by omega)]; unfold bl; rw [if_neg (by omega)]; rfl
  · obtain rfl | rfl | rfl | rfl | rfl | rfl : k = 0 ∨ k = 1 ∨ k = 2 ∨ k = 3 ∨ k = 4 ∨ k = 5 := by omega
    all_goals
      simp only [List.getD_cons_zero, List.getD_cons_succ, List.getD_nil, Nat.reduceSub, Nat.reduceMul, Nat.reducePow, Nat.reduceAdd]
      omega
def nof (A : Ab) (p r : Int32) : Option (List Nat) := if p = 0 then (match ix A.W.nc r with | none => none | some c => some (A.W.cnm c)) else if p = 1 then (match ix A.W.nm r with | none => none | some m => some (A.W.mnm m)) else none
def ltV (o : Option (List Nat)) (s : Int32) : Int32 := match o with
  | none => -1
  | some l => match ix 6 s with
    | none => -1
    | some k => nI (l.getD k 0)
def letterV (A : Ab) (p r s : Int32) : Int32 := ltV (nof A p r) s
theorem ltV_n {o : Option (List Nat)} {s : Int32} (h : ∀ k, k < 6 → s ≠ nI k) : ltV o s = -1 := by
  unfold ltV
  cases o with
  | none => rfl
  | some l => simp only; rw [ix_n (by decide) h]
theorem ltV_s {l : List Nat} {k : Nat} (h : k < 6) : ltV (some l) (nI k) = nI (l.getD k 0) := by
  unfold ltV
  simp only
  rw [ix_s h (by decide)]
theorem nof_c {A : Ab} {c : Nat} (h8 : A.W.nc ≤ 8) (hc : c < A.W.nc) : nof A 0 (nI c) = some (A.W.cnm c) := by
  unfold nof
  rw [if_pos rfl, ix_s hc (by omega)]
theorem nof_cn {A : Ab} {r : Int32} (h8 : A.W.nc ≤ 8) (hc : ∀ k, k < A.W.nc → r ≠ nI k) : nof A 0 r = none := by
  unfold nof
  rw [if_pos rfl, ix_n (by omega) hc]
theorem nof_m {A : Ab} {c : Nat} (h7 : A.W.nm ≤ 7) (hc : c < A.W.nm) : nof A 1 (nI c) = some (A.W.mnm c) := by
  unfold nof
  rw [if_neg (by decide), if_pos rfl, ix_s hc (by omega)]
theorem nof_mn {A : Ab} {r : Int32} (h7 : A.W.nm ≤ 7) (hc : ∀ k, k < A.W.nm → r ≠ nI k) : nof A 1 r = none := by
  unfold nof
  rw [if_neg (by decide), if_pos rfl, ix_n (by omega) hc]
theorem nof_o {A : Ab} {p r : Int32} (h0 : ¬ p = 0) (h1 : ¬ p = 1) : nof A p r = none := by
  unfold nof
  rw [if_neg h0, if_neg h1]
theorem sh_5 : ∀ k, k < 6 → ((5 * (5 - nI k) &&& 31 : Int32).toBitVec.smod 32).toNat = 5 * (5 - k) := by decide +kernel
theorem sh_8 : ∀ n, n < 7 → ∀ k, k < n → ((Int32.toInt64 (8 * (nI n - 1 - nI k)) &&& 63 : Int64).toBitVec.smod 64).toNat = 8 * (n - 1 - k) := by decide +kernel
section PLt
variable {n h : Nat} {Q : pj_K} {I : Nat → Nat → Int32} {J : Nat → Nat → Int64} {A : Ab}
theorem s121 (hh : 1 ≤ h) {l : List Nat} {k : Nat} (hl : nmV l) (hk : k < 6) (q : Q (some (.int (nI (l.getD k 0)))) (zc n, I, J)) : pj_D h 121 [.int (nmC l), .int (nI k)] (zc n, I, J) Q := by
  refine pj_ent (g := 0) hh (t := mt_121) rfl rfl (v121_0 (pj_D_le 0) I J _ _ ?_)
  obtain ⟨f1, f2⟩ := f32_d hl hk
  show Q (some (.int ((nI (f32 l) >>> _) &&& 31))) _
  rw [pk_shrN (by omega) _ _ (sh_5 k hk), pk_andN (Nat.lt_of_le_of_lt (Nat.div_le_self _ _) (by omega)) (m := 31) 5 (by decide)]
  show Q (some (.int (nI (f32 l / 2 ^ (5 * (5 - k)) % 32)))) _
  rw [f2]
  exact q
/-- PegCoats.letter -/
theorem c119 (hh : 2 ≤ h) {p r s : Int32} (hA : AV A) (hI : InvC A I) (q : Q (some (.int (letterV A p r s))) (zc n, I, J)) : pj_D h 119 [.ref 2, .int p, .int r, .int s] (zc n, I, J) Q := by
  have h7 := hA.2.2.1
  have h8 := hA.2.1
  obtain ⟨⟨w1, w2, w3, w4, w5⟩, -, -, wc, wm⟩ := hI.2.1
  unfold letterV at q
  refine pj_ent (g := 1) hh (t := mt_119) rfl rfl (v119_0 (pj_D_le 1) I J _ _ _ ?_)
  refine ⟨fun c => ?_, fun c => ?_⟩
  · rw [ltV_n (fun k hk e => by rw [e] at c; exact nI_pos (by omega) c)] at q
    exact q
  · obtain ⟨k, hk, rfl⟩ := nI_of c
    refine pk_lt k 6 (fun k6 => ?_) (fun k6 => ?_)
    · refine ⟨fun p0 => ⟨fun p1 => ?_, fun p1 => ?_⟩, fun p0 => ?_⟩
      · rw [nof_o p0 p1] at q
        exact q
      · subst p1
        refine s122 (by decide) w4 w2 (fun m hm e => kI_i ⟨fun z => absurd z (by decide), fun _ => ?_⟩) (fun z => kI_i ⟨fun _ => ?_, fun z => absurd rfl z⟩)
        · subst e
          rw [nof_m h7 hm, ltV_s k6] at q
          rw [nI_clamp (n := m) (by omega), (wm m hm).1]
          exact ⟨pk_in m 7 (by omega), s121 (by decide) (hA.1.2.2.2.1 m hm).2.2.2 k6 (kI_i q)⟩
        · rw [nof_mn h7 z] at q
          exact q
      · subst p0
        refine s120 (by decide) w3 w1 (fun m hm e => kI_i ⟨fun z => absurd z (by decide), fun _ => ?_⟩) (fun z => kI_i ⟨fun _ => ⟨fun _ => ?_, fun p1 => absurd p1 (by decide)⟩, fun z => absurd rfl z⟩)
        · subst e
          rw [nof_c h8 hm, ltV_s k6] at q
          rw [nI_clamp (n := m) (by omega), wc m hm]
          exact ⟨pk_in m 8 (by omega), s121 (by decide) (hA.1.2.2.1 m hm).2.2.2 k6 (kI_i q)⟩
        · rw [nof_cn h8 z] at q
          exact q
    · rw [ltV_n (fun j hj e => by have := (nI_eq hk (by omega)).mp e; omega)] at q
      exact q
/-- the letter, out of the reference's name -/
theorem s210l {l : List Nat} {k : Nat} (hl : nmV l) (hk : k < 6) (q : Q (some (.int (nI (l.getD k 0)))) (zc n, I, J)) : pj_R (pj_D 1) ta mc_210 false Q 92 [none, none, none, some (.int (nI k)), none, some (.long (nmM l)), none, some (.int 0), some (.long (nmM l)), none] [] (zc n) I J 0 0 := by
  obtain ⟨f1, f2, f3, f4⟩ := f256_d hl
  have l6 := hl.2.1
  have e0 : nmM l = lN (f256 l) := rfl
  rw [e0]
  suffices loop : ∀ r x j, j + r = 6 → x < 2 ^ 48 → x < 256 ^ r → j + bl r x = l.length → pj_R (pj_D 1) ta mc_210 false Q 92 [none, none, none, some (.int (nI k)), none, some (.long (lN (f256 l))), none, some (.int (nI j)), some (.long (lN x)), none] [] (zc n) I J 0 0 from loop 6 (f256 l) 0 rfl f1 (Nat.lt_of_lt_of_le f1 (by decide)) (by rw [f2]; omega)
  intro r
  have fin : ∀ j, j = l.length → ((nI k < nI j → Q (some (.int ((Int64.toInt32 ((lN (f256 l) >>> (Int32.toInt64 (8 * ((nI j - 1) - nI k)) &&& 63)) &&& 255) - 97) + 1))) (zc n, I, J)) ∧ (¬ nI k < nI j → Q (some (.int 0)) (zc n, I, J))) := by
    intro j hj
    refine pk_lt k j (fun c => ?_) (fun c => ?_)
    · rw [lN_shr (by omega) _ _ (sh_8 j (by omega) k c), lN_and255 (Nat.lt_of_le_of_lt (Nat.div_le_self _ _) (by omega))]
      subst hj
      rw [f4 k c, ← iL_n, iL_i, iI_n]
      have e1 : nI (96 + l.getD k 0) - 97 + 1 = nI (l.getD k 0) := by
        rw [Nat.add_comm, ← nI_add]
        have : nI (l.getD k 0) + nI 96 - 97 + 1 = nI (l.getD k 0) + (nI 96 - 97 + 1) := by
          rw [Int32.sub_eq_add_neg, Int32.sub_eq_add_neg, Int32.add_assoc, Int32.add_assoc, Int32.add_assoc]
        rw [this, show nI 96 - 97 + 1 = nI 0 by decide, nI_add]
        rfl
      rw [e1]
      exact q
    · subst hj
      rw [show l.getD k 0 = 0 by rw [List.getD_eq_getElem?_getD, List.getElem?_eq_none c]; rfl] at q
      exact q
  induction r with
  | zero =>
    intro x j hj hx hx2 hl2
    obtain rfl : x = 0 := by rw [Nat.pow_zero] at hx2; omega
    refine v210_92 (pj_D_le 1) I J _ _ _ _ (br_t (by decide) ?_)
    exact fin j hl2
  | succ r ih =>
    intro x j hj hx hx2 hl2
    refine v210_92 (pj_D_le 1) I J _ _ _ _ ?_
    unfold bl at hl2
    have c0 : lg_cmp (lN x) 0 ≤ 0 ↔ x = 0 := by
      rw [lg_cmp_le]
      have : lN x ≤ 0 ↔ x ≤ 0 := pk_lLE (b := 0) (by omega) (by decide)
      rw [this]; omega
    rw [c0]
    refine ⟨fun c => ?_, fun c => ?_⟩
    · rw [if_pos c] at hl2
      exact fin j (by omega)
    · rw [if_neg c] at hl2
      rw [lN_shr (by omega) _ 8 (by decide), nI_1]
      refine ih (x / 2 ^ 8) (j + 1) (by omega) (Nat.lt_of_le_of_lt (Nat.div_le_self _ _) hx) ?_ (by have e : x / 2 ^ 8 = x / 256 := rfl; rw [e]; omega)
      rw [Nat.pow_succ] at hx2
      exact Nat.div_lt_of_lt_mul (by rw [Nat.mul_comm]; exact hx2)
/-- PegCoatsModel.letter -/
theorem m210 (hh : 2 ≤ h) {p r s : Int32} (hA : AV A) (hI : InvM A I J) (q : Q (some (.int (letterV A p r s))) (zc n, I, J)) : pj_D h 210 [.ref 276, .int p, .int r, .int s] (zc n, I, J) Q := by
  have h7 := hA.2.2.1
  have h8 := hA.2.1
  obtain ⟨B, b1, ⟨w1, w2, w0, w3, w4, w5⟩, -, -, wc, wm⟩ := hI.2.1
  unfold letterV at q
  refine pj_ent (g := 1) hh (t := mt_210) rfl rfl (v210_0 (pj_D_le 1) I J _ _ _ ?_)
  have out : (¬ ∃ k, k < 6 ∧ s = nI k) → Q (some (.int (-1))) (zc n, I, J) := fun z => by
    rw [ltV_n (fun k hk e => z ⟨k, hk, e⟩)] at q
    exact q
  have is6 : ∀ {B0 C0 : Prop}, (∀ k, k < 6 → s = nI k → B0) → ((¬ ∃ k, k < 6 ∧ s = nI k) → C0) → ((¬ (if (0 : Int32) ≤ s ∧ s ≤ 5 then (1 : Int32) else 0) = 0 → B0) ∧ ((if (0 : Int32) ≤ s ∧ s ≤ 5 then (1 : Int32) else 0) = 0 → C0)) := by
    intro B0 C0 f1 f2
    by_cases c : (0 : Int32) ≤ s ∧ s ≤ 5
    · rw [if_pos c]
      refine ⟨fun _ => ?_, fun z => absurd z (by decide)⟩
      obtain ⟨k, hk, rfl⟩ := nI_of (x := s) (fun z => absurd (Int32.lt_of_le_of_lt c.1 z) (by decide))
      have := (nI_leI (b := 5) hk (by decide)).mp c.2
      exact f1 k (by omega) rfl
    · rw [if_neg c]
      refine ⟨fun z => absurd rfl z, fun _ => f2 (fun ⟨k, hk, e⟩ => c ?_)⟩
      rw [e]
      exact ⟨nI_pos' (by omega), nI_le (b := 5) (by omega) (by decide)⟩
  refine ⟨fun p0 => ⟨fun p1 => ?_, fun p1 => ?_⟩, fun p0 => ?_⟩
  · rw [nof_o p0 p1] at q
    exact q
  · subst p1
    refine s212 (by decide) b1 w0 w4 w2 (fun m hm e => kI_i ⟨fun z => absurd z (by decide), fun _ => ?_⟩) (fun z => kI_i ⟨fun _ => ?_, fun z => absurd rfl z⟩)
    · subst e
      refine s179 (by decide) (kI_i (is6 (fun k hk e => ?_) out))
      subst e
      rw [nof_m h7 hm, ltV_s hk] at q
      refine ⟨fun _ => ?_, fun z => absurd z p0⟩
      rw [b1, li_7, nI_clamp (n := 7 * B + m) (by omega), (wm m hm).1]
      exact ⟨pk_in (7 * B + m) 14 (by omega), s210l (hA.1.2.2.2.1 m hm).2.2.2 hk q⟩
    · rw [nof_mn h7 z] at q
      exact q
  · subst p0
    refine s211 (by decide) b1 w0 w3 w1 (fun m hm e => kI_i ⟨fun z => absurd z (by decide), fun _ => ?_⟩) (fun z => kI_i ⟨fun _ => ?_, fun z => absurd rfl z⟩)
    · subst e
      refine s179 (by decide) (kI_i (is6 (fun k hk e => ?_) out))
      subst e
      rw [nof_c h8 hm, ltV_s hk] at q
      refine ⟨fun z => absurd rfl z, fun _ => ?_⟩
      rw [b1, li_8, nI_clamp (n := 8 * B + m) (by omega), wc m hm]
      exact ⟨pk_in (8 * B + m) 16 (by omega), s210l (hA.1.2.2.1 m hm).2.2.2 hk q⟩
    · rw [nof_cn h8 z] at q
      exact q
end PLt
