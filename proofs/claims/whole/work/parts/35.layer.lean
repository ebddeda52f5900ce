/-! layers: sets of coats, copies -/
theorem nb_andn {a b S : Nat} (h : ∀ i, i < 32 → S.testBit i = (a.testBit i && !b.testBit i)) : nI a &&& (nI b ^^^ (-1)) = nI S := by
  apply Int32.toBitVec_inj.mp
  rw [Int32.toBitVec_and, Int32.toBitVec_xor]
  show BitVec.ofNat 32 a &&& (BitVec.ofNat 32 b ^^^ (-1 : Int32).toBitVec) = BitVec.ofNat 32 S
  have hm : (-1 : Int32).toBitVec = BitVec.allOnes 32 := by decide
  rw [hm]
  apply BitVec.eq_of_getLsbD_eq
  intro i hi
  rw [BitVec.getLsbD_and, BitVec.getLsbD_xor, BitVec.getLsbD_ofNat, BitVec.getLsbD_ofNat, BitVec.getLsbD_ofNat, BitVec.getLsbD_allOnes, h i hi]
  simp [hi]
/-- the coats that are on men, a bit each -/
def wS (w : Nat → Option Nat) : Nat → Nat
  | 0 => 0
  | k + 1 => wS w k ||| (match w k with | none => 0 | some c => 2 ^ c)
theorem wS_lt {w : Nat → Option Nat} : ∀ {k : Nat}, (∀ j c, j < k → w j = some c → c < 8) → wS w k < 256
  | 0, _ => by show 0 < 256; decide
  | k + 1, h => by
    have ih := wS_lt (k := k) (fun j c hj e => h j c (by omega) e)
    unfold wS
    cases e : w k with
    | none => simp only [Nat.or_zero]; exact ih
    | some c =>
      have hc := h k c (by omega) e
      have : (2 : Nat) ^ c < 2 ^ 8 := Nat.pow_lt_pow_right (by decide) hc
      exact Nat.or_lt_two_pow (n := 8) ih this
theorem wS_bit {w : Nat → Option Nat} : ∀ {k : Nat} (c : Nat), (wS w k).testBit c = (ff (fun j => decide (w j = some c)) k 0).isSome := by
  have key : ∀ (k c : Nat), (wS w k).testBit c = true ↔ ∃ j, j < k ∧ w j = some c := by
    intro k c
    induction k with
    | zero => simp [wS]
    | succ k ih =>
      unfold wS
      rw [Nat.testBit_or, Bool.or_eq_true, ih]
      constructor
      · rintro (⟨j, hj, e⟩ | h)
        · exact ⟨j, by omega, e⟩
        · refine ⟨k, by omega, ?_⟩
          cases e : w k with
          | none => rw [e] at h; simp at h
          | some d =>
            rw [e] at h
            simp only [Nat.testBit_two_pow, decide_eq_true_eq] at h
            rw [h]
      · rintro ⟨j, hj, e⟩
        rcases Nat.lt_or_ge j k with q | q
        · exact Or.inl ⟨j, q, e⟩
        · obtain rfl : j = k := by omega
          right
          rw [e]
          simp
  intro k c
  cases e : ff (fun j => decide (w j = some c)) k 0 with
  | some j =>
    have := ff_some e
    exact (key k c).mpr ⟨j, by omega, of_decide_eq_true this.2.2⟩
  | none =>
    show (wS w k).testBit c = false
    rw [← Bool.not_eq_true]
    intro h
    obtain ⟨j, hj, e2⟩ := (key k c).mp h
    have := ff_none e j (by omega) (by omega)
    rw [decide_eq_true e2] at this
    cases this
section PLy
variable {n h : Nat} {Q : pj_K} {I : Nat → Nat → Int32} {J : Nat → Nat → Int64}
/-- State.wornCoats -/
theorem s73 (hh : 1 ≤ h) {a nm : Nat} {w : Nat → Option Nat} (ha : a ∈ [35, 43, 51, 252]) (hm : nm ≤ 7) (hw : ∀ k, k < nm → I (a + 5) k = wo (w k)) (hc : ∀ j c, j < nm → w j = some c → c < 8) (q : Q (some (.int (nI (wS w nm)))) (zc n, I, J)) : pj_D h 73 [.ref a, .int (nI nm)] (zc n, I, J) Q := by
  refine pj_ent (g := 0) hh (t := mt_73) rfl rfl (g73_0 (pj_D_le 0) ha I J _ ?_)
  suffices loop : ∀ m k, m + k = nm → pj_R (pj_D 0) ta mc_73 false Q 4 [some (.ref a), some (.int (nI nm)), some (.int (nI (wS w k))), some (.int (nI k))] [] (zc n) I J 0 0 from loop nm 0 (by omega)
  intro m
  induction m with
  | zero =>
    intro k hk
    obtain rfl : k = nm := by omega
    exact g73_4 (pj_D_le 0) ha I J _ _ _ (pk_le k k (fun _ => q) (fun c => by omega))
  | succ m ih =>
    intro k hk
    refine g73_4 (pj_D_le 0) ha I J _ _ _ (pk_le nm k (fun c => by omega) (fun c => ⟨pk_in k 7 (by omega), ?_⟩))
    have ih := ih (k + 1) (by omega)
    unfold wS at ih
    rw [nI_clamp (by omega), nI_1, hw k (by omega)]
    cases e : w k with
    | none =>
      rw [e] at ih
      simp only [Nat.or_zero] at ih
      exact ⟨fun _ => ih, fun z => absurd rfl z⟩
    | some c =>
      rw [e] at ih
      have h8 := hc k c (by omega) e
      refine ⟨fun z => ?_, fun _ => ⟨pk_in k 7 (by omega), ?_⟩⟩
      · have := (wo_none (o := some c) (fun c' e' => by cases e'; omega)).mp z
        cases this
      · show pj_R _ _ _ _ _ _ [_, _, some (.int (nI (wS w k) ||| (1 : Int32) <<< (nI c &&& 31))), _] _ _ _ _ _ _
        rw [sh_1 (by omega), nb_or]
        exact ih
/-- State.peggedCoats -/
theorem s74 (hh : 2 ≤ h) {a nc nm : Nat} {w : Nat → Option Nat} {bu : Nat → Bool} (ha : a ∈ [35, 43, 51, 252]) (hm : nm ≤ 7) (hn : nc ≤ 8) (h12 : I 5 12 = nI nc) (h13 : I 5 13 = nI nm) (hw : ∀ k, k < nm → I (a + 5) k = wo (w k)) (hb : ∀ k, k < nc → I (a + 2) k = bi (bu k)) (hc : ∀ j c, j < nm → w j = some c → c < 8)
    (q : Q (some (.int (nI (bs (fun c => !bu c && (ff (fun j => decide (w j = some c)) nm 0).isNone) nc)))) (zc n, I, J)) : pj_D h 74 [.ref a, .ref 5] (zc n, I, J) Q := by
  refine pj_ent (g := 1) hh (t := mt_74) rfl rfl (g74_0 (pj_D_le 1) ha I J ?_)
  suffices loop : ∀ m k, m + k = nc → pj_R (pj_D 1) ta mc_74 false Q 4 [some (.ref a), some (.ref 5), some (.int (nI (bs (fun c => !bu c) k))), some (.int (nI k))] [] (zc n) I J 0 0 from loop nc 0 (by omega)
  intro m
  induction m with
  | zero =>
    intro k hk
    obtain rfl : k = nc := by omega
    refine g74_4 (pj_D_le 1) ha I J _ _ ?_
    rw [h12]
    refine pk_le k k (fun _ => ?_) (fun c => by omega)
    rw [h13]
    refine s73 (Nat.le_refl 1) ha hm hw hc (kI_i ?_)
    rw [nb_andn (S := bs (fun c => !bu c && (ff (fun j => decide (w j = some c)) nm 0).isNone) k) (fun i hi => ?_)]
    · exact q
    · rw [bs_bit, bs_bit, wS_bit]
      cases (ff (fun j => decide (w j = some i)) nm 0) <;> cases bu i <;> simp
  | succ m ih =>
    intro k hk
    refine g74_4 (pj_D_le 1) ha I J _ _ ?_
    rw [h12]
    refine pk_le nc k (fun c => by omega) (fun c => ⟨pk_in k 8 (by omega), ?_⟩)
    have ih := ih (k + 1) (by omega)
    rw [nI_clamp (by omega), nI_1, hb k (by omega)]
    have e1 : bs (fun c => !bu c) (k + 1) = bs (fun c => !bu c) k + (match !bu k with | true => 2 ^ k | false => 0) := rfl
    rw [e1] at ih
    cases e : bu k with
    | true =>
      rw [e] at ih
      exact ⟨fun _ => ih, fun z => absurd z (by decide)⟩
    | false =>
      rw [e] at ih
      refine ⟨fun z => absurd rfl z, fun _ => ?_⟩
      rw [sh_1 (by omega), nb_or]
      have e2 : bs (fun c => !bu c) k ||| 2 ^ k = bs (fun c => !bu c) k + 2 ^ k := by
        rw [Nat.or_comm, Nat.add_comm, tp_or (bs_lt _ k)]
      rw [e2]
      exact ih
end PLy
