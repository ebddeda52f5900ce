/-! match: on layers; the class -/
def gn (W : Wk) (L : Ly) (i c : Nat) : Nat := match L.the i && !L.bur c with
  | true => (wml W L i c).toNat
  | false => 0
def mbF (g : Nat → Nat) (f : Nat → Nat) (S : Nat) : Nat → Nat
  | 0 => f S
  | c + 1 => if 0 < g c ∧ S.testBit c = false then (if mbF g f S c < g c + f (S ||| 2 ^ c) then g c + f (S ||| 2 ^ c) else mbF g f S c) else mbF g f S c
def mb (W : Wk) (L : Ly) : Nat → Nat → Nat → Nat
  | 0, _, _ => 0
  | r + 1, i, S => mbF (gn W L i) (mb W L r (i + 1)) S W.nc
/-- the coat that a man takes first -/
def fc (W : Wk) (L : Ly) (i S : Nat) : Option Nat := if mb W L (W.nm - (i + 1)) (i + 1) S = mb W L (W.nm - i) i S then none else ff (fun c => decide (0 < gn W L i c) && !S.testBit c && decide (gn W L i c + mb W L (W.nm - (i + 1)) (i + 1) (S ||| 2 ^ c) = mb W L (W.nm - i) i S)) W.nc 0
def mtN (W : Wk) (L : Ly) : Nat → Nat × Option Nat
  | 0 => (0, none)
  | k + 1 => ((mtN W L k).1 ||| (match fc W L k (mtN W L k).1 with | none => 0 | some c => 2 ^ c), fc W L k (mtN W L k).1)
def matchV (A : Ab) (p : Int32) : Int32 := if p = -1 then nI (mb A.W A.L A.W.nm 0 0) else match ix A.W.nm p with
  | none => -1
  | some m => wo (mtN A.W A.L (m + 1)).2
theorem mbF_b {g f : Nat → Nat} {S b : Nat} (hg : ∀ c, g c ≤ 1000000) (hf : ∀ T, f T ≤ b) : ∀ c, mbF g f S c ≤ b + 1000000
  | 0 => by have := hf S; show f S ≤ _; omega
  | c + 1 => by
    have ih := mbF_b (S := S) hg hf c
    have h1 := hg c
    have h2 := hf (S ||| 2 ^ c)
    unfold mbF
    split
    · split <;> omega
    · exact ih
theorem gn_b {A : Ab} (hA : AV A) {i c : Nat} (hi : i < A.W.nm) (hc : c < A.W.nc) : gn A.W A.L i c ≤ 1000000 := by
  have := wml_b hA hi hc
  unfold gn
  have := this.2
  split <;> omega
theorem mbF_cong {g g' f : Nat → Nat} {S : Nat} : ∀ {c : Nat}, (∀ d, d < c → g d = g' d) → mbF g f S c = mbF g' f S c
  | 0, _ => rfl
  | c + 1, h => by
    unfold mbF
    rw [mbF_cong (c := c) (fun d hd => h d (by omega)), h c (by omega)]
theorem mb_b {A : Ab} (hA : AV A) : ∀ {r i S : Nat}, r + i ≤ A.W.nm → mb A.W A.L r i S ≤ 1000000 * r
  | 0, _, _, _ => Nat.zero_le _
  | r + 1, i, S, h => by
    show mbF (gn A.W A.L i) (mb A.W A.L r (i + 1)) S A.W.nc ≤ 1000000 * (r + 1)
    rw [mbF_cong (g' := fun c => if c < A.W.nc then gn A.W A.L i c else 0) (fun d hd => by rw [if_pos hd])]
    have := mbF_b (g := fun c => if c < A.W.nc then gn A.W A.L i c else 0) (f := mb A.W A.L r (i + 1)) (S := S) (b := 1000000 * r) (fun c => by
      split
      · rename_i z; exact gn_b hA (by omega) z
      · omega) (fun T => mb_b hA (by omega)) A.W.nc
    omega
theorem mbF_z {g f : Nat → Nat} {S : Nat} (hz : ∀ c, g c = 0) : ∀ c, mbF g f S c = f S
  | 0 => rfl
  | c + 1 => by
    unfold mbF
    rw [if_neg (fun z => by have := hz c; omega)]
    exact mbF_z hz c
/-- one who isn't there takes none -/
theorem fc_n {A : Ab} {i S : Nat} (hi : i < A.W.nm) (ht : A.L.the i = false) : fc A.W A.L i S = none := by
  unfold fc
  rw [if_pos]
  obtain ⟨r, hr⟩ : ∃ r, A.W.nm - i = r + 1 := ⟨A.W.nm - i - 1, by omega⟩
  rw [hr, show A.W.nm - (i + 1) = r by omega]
  show mb A.W A.L r (i + 1) S = mbF (gn A.W A.L i) (mb A.W A.L r (i + 1)) S A.W.nc
  rw [mbF_z (fun c => by unfold gn; rw [ht, Bool.false_and])]
theorem popc_or {S c : Nat} : popc (S ||| 2 ^ c) ≤ popc S + 1 := by
  unfold popc
  have key : ∀ k, cu (fun k => (S ||| 2 ^ c).testBit k) k ≤ cu (fun k => S.testBit k) k + (if c < k then 1 else 0) := by
    intro k
    induction k with
    | zero => exact Nat.le_refl _
    | succ k ihk =>
      show cu (fun k => (S ||| 2 ^ c).testBit k) k + (match (S ||| 2 ^ c).testBit k with | true => 1 | false => 0) ≤ cu (fun k => S.testBit k) k + (match S.testBit k with | true => 1 | false => 0) + _
      rw [Nat.testBit_or, Nat.testBit_two_pow]
      by_cases d : c = k
      · subst d
        rw [if_neg (by omega)] at ihk
        rw [decide_eq_true rfl, Bool.or_true, if_pos (by omega)]
        cases S.testBit c <;> simp only <;> omega
      · rw [decide_eq_false d, Bool.or_false]
        by_cases d2 : c < k
        · rw [if_pos d2] at ihk
          rw [if_pos (by omega)]; omega
        · rw [if_neg d2] at ihk
          rw [if_neg (by omega)]; omega
  have := key 8
  split at this <;> omega
theorem or_pow_lt {S c N : Nat} (h : S < 2 ^ N) (hc : c < N) : S ||| 2 ^ c < 2 ^ N := Nat.or_lt_two_pow h (Nat.pow_lt_pow_right (by decide) hc)
theorem mtN_b {W : Wk} {L : Ly} : ∀ k, (mtN W L k).1 < 2 ^ W.nc ∧ popc (mtN W L k).1 ≤ k ∧ ∀ c, (mtN W L k).2 = some c → c < W.nc
  | 0 => ⟨Nat.two_pow_pos _, by show popc 0 ≤ 0; decide, fun c e => by cases e⟩
  | k + 1 => by
    obtain ⟨h1, h2, -⟩ := mtN_b (W := W) (L := L) k
    have hf : ∀ c, fc W L k (mtN W L k).1 = some c → c < W.nc := fun c e => by
      unfold fc at e
      split at e
      · cases e
      · have := (ff_some e).2.1; omega
    show (mtN W L k).1 ||| _ < _ ∧ popc ((mtN W L k).1 ||| _) ≤ _ ∧ ∀ c, fc W L k (mtN W L k).1 = some c → _
    refine ⟨?_, ?_, hf⟩
    · cases e : fc W L k (mtN W L k).1 with
      | none => simp only [Nat.or_zero]; exact h1
      | some c => exact or_pow_lt h1 (hf c e)
    · cases e : fc W L k (mtN W L k).1 with
      | none => simp only [Nat.or_zero]; omega
      | some c =>
        have := popc_or (S := (mtN W L k).1) (c := c)
        show popc ((mtN W L k).1 ||| 2 ^ c) ≤ k + 1
        omega
theorem z222 : ∀ i, i < 7 → zR 222 i = some (223 + i) ∧ Nat.beq (zK (223 + i)) 13 = true := by decide +kernel
theorem z230 : ∀ i, i < 8 → zR 230 i = some (231 + i) ∧ Nat.beq (zK (231 + i)) 13 = true := by decide +kernel
theorem z222L (n : Nat) : ∀ i, i < 7 → zL n (223 + i) = 8 := by
  intro i h
  obtain rfl | rfl | rfl | rfl | rfl | rfl | rfl : i = 0 ∨ i = 1 ∨ i = 2 ∨ i = 3 ∨ i = 4 ∨ i = 5 ∨ i = 6 := by omega
  all_goals rfl
theorem z230L (n : Nat) : ∀ i, i < 8 → zL n (231 + i) = 256 := by
  intro i h
  obtain rfl | rfl | rfl | rfl | rfl | rfl | rfl | rfl : i = 0 ∨ i = 1 ∨ i = 2 ∨ i = 3 ∨ i = 4 ∨ i = 5 ∨ i = 6 ∨ i = 7 := by omega
  all_goals rfl
section PMa
variable {n h : Nat} {Q : pj_K} {I : Nat → Nat → Int32} {J : Nat → Nat → Int64} {A : Ab}
/-- the gains are laid -/
def GT (A : Ab) (I : Nat → Nat → Int32) : Prop := ∀ i c, i < A.W.nm → c < A.W.nc → I (223 + i) c = nI (gn A.W A.L i c)
/-- the greatest sums of the men from one on are laid, for the sets that can be -/
def BT (A : Ab) (i : Nat) (I : Nat → Nat → Int32) : Prop := ∀ S, S < 2 ^ A.W.nc → popc S ≤ i → I (231 + i) S = nI (mb A.W A.L (A.W.nm - i) i S)
/-- Matching.canTake -/
theorem s15 (hh : 1 ≤ h) {i c S : Nat} (hA : AV A) (hG : GT A I) (hi : i < A.W.nm) (hc : c < A.W.nc) (hS : S < 256) (q1 : 0 < gn A.W A.L i c → S.testBit c = false → Q (some (.int 1)) (zc n, I, J)) (q0 : ¬ (0 < gn A.W A.L i c ∧ S.testBit c = false) → Q (some (.int 0)) (zc n, I, J)) : pj_D h 15 [.ref 221, .int (nI i), .int (nI c), .int (nI S)] (zc n, I, J) Q := by
  have h7 := hA.2.2.1
  have h8 := hA.2.1
  obtain ⟨z1, z2⟩ := z222 i (by omega)
  have gb := gn_b hA hi hc
  refine pj_ent (g := 0) hh (t := mt_15) rfl rfl (v15_0 (pj_D_le 0) I J _ _ _ ?_)
  rw [nI_clamp (n := i) (by omega), z1]
  show _ ∧ _ ∧ (Nat.beq (zK (223 + i)) 13 || _) = true ∧ vp_in _ (zL n (223 + i)) ∧ (I (223 + i) (nI c).toNatClampNeg ≤ 0 → _) ∧ (¬ I (223 + i) (nI c).toNatClampNeg ≤ 0 → _)
  rw [z2, z222L n i (by omega), nI_clamp (n := c) (by omega), hG i c hi hc, nb_bit (by omega) (by omega)]
  refine ⟨pk_in i 7 (by omega), rfl, rfl, pk_in c 8 (by omega), pk_le (gn A.W A.L i c) 0 (fun d => q0 (fun z => by omega)) (fun d => ?_)⟩
  cases e : S.testBit c with
  | true => exact ⟨fun _ => q0 (fun z => by rw [e] at z; cases z.2), fun z => absurd z (by decide)⟩
  | false => exact ⟨fun z => absurd rfl z, fun _ => q1 d e⟩
/-- Matching.bestFrom -/
theorem s14 (hh : 2 ≤ h) {i S : Nat} (hA : AV A) (hW : WC A.W 5 I) (hG : GT A I) (hB : BT A (i + 1) I) (hi : i < A.W.nm) (hS : S < 2 ^ A.W.nc) (hp : popc S ≤ i) (q : Q (some (.int (nI (mb A.W A.L (A.W.nm - i) i S)))) (zc n, I, J)) : pj_D h 14 [.ref 221, .int (nI i), .int (nI S)] (zc n, I, J) Q := by
  have h7 := hA.2.2.1
  have h8 := hA.2.1
  have S256 : S < 256 := Nat.lt_of_lt_of_le hS (Nat.pow_le_pow_right (n := 2) (by decide) h8)
  obtain ⟨z1, z2⟩ := z230 (i + 1) (by omega)
  obtain ⟨y1, y2⟩ := z222 i (by omega)
  obtain ⟨r, hr⟩ : ∃ r, A.W.nm - i = r + 1 := ⟨A.W.nm - i - 1, by omega⟩
  have er : A.W.nm - (i + 1) = r := by omega
  have hB' : ∀ T, T < 2 ^ A.W.nc → popc T ≤ i + 1 → I (231 + (i + 1)) T = nI (mb A.W A.L r (i + 1) T) := fun T h1 h2 => by rw [hB T h1 h2, er]
  rw [hr] at q
  have q : Q (some (.int (nI (mbF (gn A.W A.L i) (mb A.W A.L r (i + 1)) S A.W.nc)))) (zc n, I, J) := q
  refine pj_ent (g := 1) hh (t := mt_14) rfl rfl (v14_0 (pj_D_le 1) I J _ _ ?_)
  rw [nI_1 i, nI_clamp (n := i + 1) (by omega), z1]
  show _ ∧ _ ∧ (Nat.beq (zK (231 + (i + 1))) 13 || _) = true ∧ vp_in _ (zL n (231 + (i + 1))) ∧ pj_R (pj_D 1) ta mc_14 false Q 14 [some (.ref 221), some (.int (nI i)), some (.int (nI S)), some (.int (I (231 + (i + 1)) (nI S).toNatClampNeg)), some (.int 0)] [] (zc n) I J 0 0
  rw [z2, z230L n (i + 1) (by omega), nI_clamp (n := S) (by omega), hB' S hS (by omega)]
  refine ⟨pk_in (i + 1) 8 (by omega), rfl, rfl, pk_in S 256 S256, ?_⟩
  suffices loop : ∀ s c, s + c = A.W.nc → pj_R (pj_D 1) ta mc_14 false Q 14 [some (.ref 221), some (.int (nI i)), some (.int (nI S)), some (.int (nI (mbF (gn A.W A.L i) (mb A.W A.L r (i + 1)) S c))), some (.int (nI c))] [] (zc n) I J 0 0 from loop A.W.nc 0 (by omega)
  intro s
  induction s with
  | zero =>
    intro c hc
    obtain rfl : c = A.W.nc := by omega
    refine v14_14 (pj_D_le 1) I J _ _ _ _ ?_
    rw [hW.2.2.1]
    exact br_t (nI_le (Nat.le_refl _) (by omega)) q
  | succ s ih =>
    intro c hc
    have hcn : c < A.W.nc := by omega
    have ih := ih (c + 1) (by omega)
    have em : mbF (gn A.W A.L i) (mb A.W A.L r (i + 1)) S (c + 1) = if 0 < gn A.W A.L i c ∧ S.testBit c = false then (if mbF (gn A.W A.L i) (mb A.W A.L r (i + 1)) S c < gn A.W A.L i c + mb A.W A.L r (i + 1) (S ||| 2 ^ c) then gn A.W A.L i c + mb A.W A.L r (i + 1) (S ||| 2 ^ c) else mbF (gn A.W A.L i) (mb A.W A.L r (i + 1)) S c) else mbF (gn A.W A.L i) (mb A.W A.L r (i + 1)) S c := rfl
    rw [em] at ih
    have gb := gn_b hA hi hcn
    have mb1 := mb_b hA (r := r) (i := i + 1) (S := S ||| 2 ^ c) (by omega)
    have ml : mbF (gn A.W A.L i) (mb A.W A.L r (i + 1)) S c < 2 ^ 31 := by
      rw [mbF_cong (g' := fun c => if c < A.W.nc then gn A.W A.L i c else 0) (fun d hd => by rw [if_pos (by omega)])]
      have := mbF_b (g := fun c => if c < A.W.nc then gn A.W A.L i c else 0) (f := mb A.W A.L r (i + 1)) (S := S) (b := 1000000 * r) (fun c => by
        split
        · rename_i z; exact gn_b hA hi z
        · omega) (fun T => mb_b hA (by omega)) c
      omega
    refine v14_14 (pj_D_le 1) I J _ _ _ _ ?_
    rw [hW.2.2.1, nI_clamp (n := i) (by omega), y1, nI_1 i, nI_clamp (n := i + 1) (by omega), z1, nI_1 c]
    refine br_f (nI_ge hcn (by omega)) (s15 (Nat.le_refl 1) hA hG hi hcn S256 (fun d1 d2 => kI_i ⟨fun z => absurd z (by decide), fun _ => ?_⟩) (fun d => kI_i ⟨fun _ => ?_, fun z => absurd rfl z⟩))
    · rw [if_pos ⟨d1, d2⟩] at ih
      show vp_in _ 7 ∧ _ ∧ (Nat.beq (zK (223 + i)) 13 || _) = true ∧ vp_in _ (zL n (223 + i)) ∧ vp_in _ 8 ∧ _ ∧ (Nat.beq (zK (231 + (i + 1))) 13 || _) = true ∧ vp_in _ (zL n (231 + (i + 1))) ∧ pj_R (pj_D 1) ta mc_14 false Q 14 [some (.ref 221), some (.int (nI i)), some (.int (nI S)), some (.int (if nI (mbF (gn A.W A.L i) (mb A.W A.L r (i + 1)) S c) < I (223 + i) (nI c).toNatClampNeg + I (231 + (i + 1)) (nI S ||| (1 : Int32) <<< (nI c &&& 31)).toNatClampNeg then I (223 + i) (nI c).toNatClampNeg + I (231 + (i + 1)) (nI S ||| (1 : Int32) <<< (nI c &&& 31)).toNatClampNeg else nI (mbF (gn A.W A.L i) (mb A.W A.L r (i + 1)) S c))), some (.int (nI (c + 1)))] [] (zc n) I J 0 0
      have T1 : S ||| 2 ^ c < 2 ^ A.W.nc := or_pow_lt hS hcn
      have T256 : S ||| 2 ^ c < 256 := Nat.lt_of_lt_of_le T1 (Nat.pow_le_pow_right (n := 2) (by decide) h8)
      have po := popc_or (S := S) (c := c)
      rw [y2, z2, z222L n i (by omega), z230L n (i + 1) (by omega), sh_1 (by omega), nb_or, nI_clamp (n := c) (by omega), nI_clamp (n := S ||| 2 ^ c) (by omega), hG i c hi hcn, hB' _ T1 (by omega), nI_add]
      refine ⟨pk_in i 7 (by omega), rfl, rfl, pk_in c 8 (by omega), pk_in (i + 1) 8 (by omega), rfl, rfl, pk_in (S ||| 2 ^ c) 256 T256, ?_⟩
      by_cases z : mbF (gn A.W A.L i) (mb A.W A.L r (i + 1)) S c < gn A.W A.L i c + mb A.W A.L r (i + 1) (S ||| 2 ^ c)
      · rw [if_pos z] at ih
        rw [if_pos (nI_lt z (by omega))]
        exact ih
      · rw [if_neg z] at ih
        rw [if_neg (nI_nlt (by omega) ml)]
        exact ih
    · rw [if_neg d] at ih
      exact ih
def mC : Nat → Nat → Bool := fun c _ => c == 16 || c == 17 || (Nat.ble 223 c && Nat.ble c 238)
theorem mC_q {c j : Nat} (h : qC c j = false) : mC c j = false := by
  have := qC_f h
  unfold mC
  rw [rg_l (by omega), beq_eq_false_iff_ne.mpr (by omega), beq_eq_false_iff_ne.mpr (by omega)]
  rfl
theorem mC_t {c j : Nat} (h1 : 223 ≤ c) (h2 : c ≤ 238) : mC c j = true := by
  unfold mC
  rw [Nat.ble_eq_true_of_le h1, Nat.ble_eq_true_of_le h2]
  simp
end PMa
