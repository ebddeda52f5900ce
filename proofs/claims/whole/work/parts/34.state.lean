/-! layers: who wears what; counts; sets of bits -/
def wo (o : Option Nat) : Int32 := match o with | none => -1 | some c => nI c
def bi (b : Bool) : Int32 := match b with | true => 1 | false => 0
/-- the first k from a place on, of so many, with p -/
def ff (p : Nat → Bool) : Nat → Nat → Option Nat
  | 0, _ => none
  | m + 1, k => match p k with | true => some k | false => ff p m (k + 1)
theorem ff_some {p : Nat → Bool} : ∀ {m k c : Nat}, ff p m k = some c → k ≤ c ∧ c < k + m ∧ p c = true
  | 0, _, _, h => by cases h
  | m + 1, k, c, h => by
    unfold ff at h
    cases e : p k with
    | true => rw [e] at h; cases h; exact ⟨Nat.le_refl _, by omega, e⟩
    | false =>
      rw [e] at h
      have := ff_some (m := m) h
      exact ⟨by omega, by omega, this.2.2⟩
theorem ff_none {p : Nat → Bool} : ∀ {m k : Nat}, ff p m k = none → ∀ j, k ≤ j → j < k + m → p j = false
  | 0, _, _, j, h1, h2 => by omega
  | m + 1, k, h, j, h1, h2 => by
    unfold ff at h
    cases e : p k with
    | true => rw [e] at h; cases h
    | false =>
      rw [e] at h
      rcases Nat.eq_or_lt_of_le h1 with q | q
      · rw [← q]; exact e
      · exact ff_none (m := m) h j (by omega) (by omega)
theorem ff_cong {p p' : Nat → Bool} : ∀ {m k : Nat}, (∀ j, k ≤ j → j < k + m → p j = p' j) → ff p m k = ff p' m k
  | 0, _, _ => rfl
  | m + 1, k, h => by
    unfold ff
    rw [← h k (Nat.le_refl _) (by omega), ff_cong (m := m) (fun j h1 h2 => h j (by omega) (by omega))]
/-- how many below k, with p -/
def cu (p : Nat → Bool) : Nat → Nat
  | 0 => 0
  | k + 1 => cu p k + (match p k with | true => 1 | false => 0)
theorem cu_le (p : Nat → Bool) : ∀ k, cu p k ≤ k
  | 0 => Nat.le_refl _
  | k + 1 => by
    have := cu_le p k
    unfold cu
    cases p k <;> simp only <;> omega
theorem cu_cong {p p' : Nat → Bool} : ∀ {k : Nat}, (∀ j, j < k → p j = p' j) → cu p k = cu p' k
  | 0, _ => rfl
  | k + 1, h => by
    unfold cu
    rw [cu_cong (k := k) (fun j hj => h j (by omega)), h k (by omega)]
/-- a set of numbers below k as a number -/
def bs (p : Nat → Bool) : Nat → Nat
  | 0 => 0
  | k + 1 => bs p k + (match p k with | true => 2 ^ k | false => 0)
theorem bs_lt (p : Nat → Bool) : ∀ k, bs p k < 2 ^ k
  | 0 => by show 0 < 1; decide
  | k + 1 => by
    have := bs_lt p k
    unfold bs
    rw [Nat.pow_succ]
    cases p k <;> simp only <;> omega
theorem tp_or {a k : Nat} (h : a < 2 ^ k) : 2 ^ k + a = 2 ^ k ||| a := by
  have := Nat.two_pow_add_eq_or_of_lt h 1
  rwa [Nat.mul_one] at this
theorem bs_bit (p : Nat → Bool) : ∀ k j, (bs p k).testBit j = (decide (j < k) && p j)
  | 0, j => by simp [bs]
  | k + 1, j => by
    have h1 := bs_lt p k
    have ih := bs_bit p k j
    unfold bs
    cases e : p k with
    | false =>
      simp only [Nat.add_zero]
      rw [ih]
      rcases Nat.lt_trichotomy j k with q | q | q
      · simp [q, Nat.lt_succ_of_lt q]
      · subst q; simp [e]
      · simp [Nat.not_lt.mpr (Nat.le_of_lt q), show ¬ j < k + 1 by omega]
    | true =>
      simp only
      rw [Nat.add_comm, tp_or h1, Nat.testBit_or, ih, Nat.testBit_two_pow]
      rcases Nat.lt_trichotomy j k with q | q | q
      · simp [q, Nat.lt_succ_of_lt q, show ¬ k = j by omega]
      · subst q; simp [e]
      · simp [Nat.not_lt.mpr (Nat.le_of_lt q), show ¬ j < k + 1 by omega, show ¬ k = j by omega]
theorem bs_cong {p p' : Nat → Bool} : ∀ {k : Nat}, (∀ j, j < k → p j = p' j) → bs p k = bs p' k
  | 0, _ => rfl
  | k + 1, h => by
    unfold bs
    rw [bs_cong (k := k) (fun j hj => h j (by omega)), h k (by omega)]
theorem sh_k : ∀ k, k < 32 → ((nI k &&& 31).toBitVec.smod 32).toNat = k := by decide +kernel
theorem sh_1 {k : Nat} (h : k < 31) : (1 : Int32) <<< (nI k &&& 31) = nI (2 ^ k) := by
  have h1 : (2 : Nat) ^ k < 2 ^ 31 := Nat.pow_lt_pow_right (by decide) h
  have := pk_shlN (n := 1) (nI k &&& 31) k (sh_k k (by omega)) (by omega)
  rw [Nat.one_mul] at this
  exact this
theorem nb_and (a b : Nat) : nI a &&& nI b = nI (a &&& b) := by
  apply Int32.toBitVec_inj.mp
  rw [Int32.toBitVec_and]
  show BitVec.ofNat 32 a &&& BitVec.ofNat 32 b = BitVec.ofNat 32 (a &&& b)
  apply BitVec.eq_of_toNat_eq
  simp [BitVec.toNat_and, BitVec.toNat_ofNat, Nat.and_mod_two_pow]
theorem nb_or (a b : Nat) : nI a ||| nI b = nI (a ||| b) := by
  apply Int32.toBitVec_inj.mp
  rw [Int32.toBitVec_or]
  show BitVec.ofNat 32 a ||| BitVec.ofNat 32 b = BitVec.ofNat 32 (a ||| b)
  apply BitVec.eq_of_toNat_eq
  simp [BitVec.toNat_or, BitVec.toNat_ofNat, Nat.or_mod_two_pow]
/-- a bit asked -/
theorem nb_bit {S k : Nat} (hS : S < 2 ^ 31) (hk : k < 32) : (nI S >>> (nI k &&& 31)) &&& 1 = bi (S.testBit k) := by
  rw [pk_shrN hS _ k (sh_k k hk)]
  have hd : S / 2 ^ k < 2 ^ 32 := Nat.lt_of_le_of_lt (Nat.div_le_self _ _) (by omega)
  rw [pk_andN hd (m := 1) 1 (by decide)]
  have e : S.testBit k = decide (S / 2 ^ k % 2 = 1) := by
    rw [Nat.testBit_eq_decide_div_mod_eq]
  rw [e]
  have h2 : S / 2 ^ k % 2 < 2 := Nat.mod_lt _ (by decide)
  rcases Nat.lt_or_ge (S / 2 ^ k % 2) 1 with q | q
  · have : S / 2 ^ k % 2 = 0 := by omega
    show nI (S / 2 ^ k % 2) = _
    rw [this]; rfl
  · have : S / 2 ^ k % 2 = 1 := by omega
    show nI (S / 2 ^ k % 2) = _
    rw [this]; rfl
section PSt
variable {n h : Nat} {Q : pj_K} {I : Nat → Nat → Int32} {J : Nat → Nat → Int64}
/-- State.wearer -/
theorem s76 (hh : 1 ≤ h) {a nm : Nat} {p : Int32} (ha : a ∈ [35, 240]) (hm : nm ≤ 7) (q : Q (some (.int (wo (ff (fun k => decide (I (a + 5) k = p)) nm 0)))) (zc n, I, J)) : pj_D h 76 [.ref a, .int p, .int (nI nm)] (zc n, I, J) Q := by
  refine pj_ent (g := 0) hh (t := mt_76) rfl rfl (g76_0 (pj_D_le 0) ha I J _ _ ?_)
  suffices loop : ∀ m k, m + k = nm → Q (some (.int (wo (ff (fun k => decide (I (a + 5) k = p)) m k)))) (zc n, I, J) → pj_R (pj_D 0) ta mc_76 false Q 2 [some (.ref a), some (.int p), some (.int (nI nm)), some (.int (nI k))] [] (zc n) I J 0 0 from loop nm 0 (by omega) q
  intro m
  induction m with
  | zero =>
    intro k hk q
    refine g76_2 (pj_D_le 0) ha I J _ _ _ (pk_le nm k (fun _ => q) (fun c => by omega))
  | succ m ih =>
    intro k hk q
    refine g76_2 (pj_D_le 0) ha I J _ _ _ (pk_le nm k (fun c => by omega) (fun c => ⟨pk_in k 7 (by omega), ?_⟩))
    rw [nI_clamp (by omega), nI_1]
    unfold ff at q
    by_cases e : I (a + 5) k = p
    · rw [decide_eq_true e] at q
      exact ⟨fun z => absurd e z, fun _ => q⟩
    · rw [decide_eq_false e] at q
      exact ⟨fun _ => ih (k + 1) (by omega) q, fun z => absurd z e⟩
/-- State.menThere, burntCoats -/
theorem s72 (hh : 1 ≤ h) {nm : Nat} (hm : nm ≤ 7) (q : Q (some (.int (nI (cu (fun k => !decide (I 42 k = 0)) nm)))) (zc n, I, J)) : pj_D h 72 [.ref 35, .int (nI nm)] (zc n, I, J) Q := by
  refine pj_ent (g := 0) hh (t := mt_72) rfl rfl (v72_0 (pj_D_le 0) I J _ ?_)
  suffices loop : ∀ m k, m + k = nm → pj_R (pj_D 0) ta mc_72 false Q 4 [some (.ref 35), some (.int (nI nm)), some (.int (nI (cu (fun k => !decide (I 42 k = 0)) k))), some (.int (nI k))] [] (zc n) I J 0 0 from loop nm 0 (by omega)
  intro m
  induction m with
  | zero =>
    intro k hk
    obtain rfl : k = nm := by omega
    exact v72_4 (pj_D_le 0) I J _ _ _ (pk_le k k (fun _ => q) (fun c => by omega))
  | succ m ih =>
    intro k hk
    refine v72_4 (pj_D_le 0) I J _ _ _ (pk_le nm k (fun c => by omega) (fun c => ⟨pk_in k 7 (by omega), ?_⟩))
    have ih := ih (k + 1) (by omega)
    unfold cu at ih
    rw [nI_clamp (by omega), nI_1, nI_1]
    by_cases e : I 42 k = 0
    · rw [decide_eq_true e] at ih
      exact ⟨fun _ => ih, fun z => absurd e z⟩
    · rw [decide_eq_false e] at ih
      exact ⟨fun z => absurd z e, fun _ => ih⟩
theorem s75 (hh : 1 ≤ h) {nm : Nat} (hm : nm ≤ 8) (q : Q (some (.int (nI (cu (fun k => !decide (I 37 k = 0)) nm)))) (zc n, I, J)) : pj_D h 75 [.ref 35, .int (nI nm)] (zc n, I, J) Q := by
  refine pj_ent (g := 0) hh (t := mt_75) rfl rfl (v75_0 (pj_D_le 0) I J _ ?_)
  suffices loop : ∀ m k, m + k = nm → pj_R (pj_D 0) ta mc_75 false Q 4 [some (.ref 35), some (.int (nI nm)), some (.int (nI (cu (fun k => !decide (I 37 k = 0)) k))), some (.int (nI k))] [] (zc n) I J 0 0 from loop nm 0 (by omega)
  intro m
  induction m with
  | zero =>
    intro k hk
    obtain rfl : k = nm := by omega
    exact v75_4 (pj_D_le 0) I J _ _ _ (pk_le k k (fun _ => q) (fun c => by omega))
  | succ m ih =>
    intro k hk
    refine v75_4 (pj_D_le 0) I J _ _ _ (pk_le nm k (fun c => by omega) (fun c => ⟨pk_in k 8 (by omega), ?_⟩))
    have ih := ih (k + 1) (by omega)
    unfold cu at ih
    rw [nI_clamp (by omega), nI_1, nI_1]
    by_cases e : I 37 k = 0
    · rw [decide_eq_true e] at ih
      exact ⟨fun _ => ih, fun z => absurd e z⟩
    · rw [decide_eq_false e] at ih
      exact ⟨fun z => absurd z e, fun _ => ih⟩
/-- isCoat, isMan -/
theorem is_in {p : Int32} {m : Nat} (hm : m < 2 ^ 31) {A B : Prop} (q1 : ∀ k, k < m → p = nI k → A) (q2 : (∀ k, k < m → p ≠ nI k) → B) : (p < 0 → B) ∧ (¬ p < 0 → (nI m ≤ p → B) ∧ (¬ nI m ≤ p → A)) := by
  refine ⟨fun c => q2 (fun k hk e => ?_), fun c => ?_⟩
  · rw [e] at c
    exact nI_pos (by omega) c
  · obtain ⟨j, hj, rfl⟩ := nI_of c
    refine pk_le m j (fun c => q2 (fun k hk e => ?_)) (fun c => q1 j c rfl)
    have := (nI_eq hj (by omega)).mp e
    omega
theorem s120 (hh : 1 ≤ h) {nc : Nat} {p : Int32} (hc : I 5 12 = nI nc) (hn : nc ≤ 8) (q1 : ∀ k, k < nc → p = nI k → Q (some (.int 1)) (zc n, I, J)) (q2 : (∀ k, k < nc → p ≠ nI k) → Q (some (.int 0)) (zc n, I, J)) : pj_D h 120 [.ref 2, .int p] (zc n, I, J) Q := by
  refine pj_ent (g := 0) hh (t := mt_120) rfl rfl (v120_0 (pj_D_le 0) I J _ ?_)
  rw [hc]
  exact is_in (by omega) q1 q2
theorem s122 (hh : 1 ≤ h) {nm : Nat} {p : Int32} (hc : I 5 13 = nI nm) (hn : nm ≤ 7) (q1 : ∀ k, k < nm → p = nI k → Q (some (.int 1)) (zc n, I, J)) (q2 : (∀ k, k < nm → p ≠ nI k) → Q (some (.int 0)) (zc n, I, J)) : pj_D h 122 [.ref 2, .int p] (zc n, I, J) Q := by
  refine pj_ent (g := 0) hh (t := mt_122) rfl rfl (v122_0 (pj_D_le 0) I J _ ?_)
  rw [hc]
  exact is_in (by omega) q1 q2
theorem is_in' {p : Int32} {m : Nat} (hm : m < 2 ^ 31) {A B D : Prop} (hD : D) (q1 : ∀ k, k < m → p = nI k → A) (q2 : (∀ k, k < m → p ≠ nI k) → B) : (p < 0 → B) ∧ (¬ p < 0 → D ∧ (nI m ≤ p → B) ∧ (¬ nI m ≤ p → A)) :=
  ⟨(is_in hm q1 q2).1, fun c => ⟨hD, (is_in hm q1 q2).2 c⟩⟩
theorem s211 (hh : 1 ≤ h) {nc B : Nat} {p : Int32} (hB : I 276 13 = nI B) (hB2 : B < 2) (hc : I 278 B = nI nc) (hn : nc ≤ 8) (q1 : ∀ k, k < nc → p = nI k → Q (some (.int 1)) (zc n, I, J)) (q2 : (∀ k, k < nc → p ≠ nI k) → Q (some (.int 0)) (zc n, I, J)) : pj_D h 211 [.ref 276, .int p] (zc n, I, J) Q := by
  refine pj_ent (g := 0) hh (t := mt_211) rfl rfl (v211_0 (pj_D_le 0) I J _ ?_)
  rw [hB, nI_clamp (by omega), hc]
  exact is_in' (by omega) (vp_in_nI hB2 (by decide)) q1 q2
theorem s212 (hh : 1 ≤ h) {nm B : Nat} {p : Int32} (hB : I 276 13 = nI B) (hB2 : B < 2) (hc : I 281 B = nI nm) (hn : nm ≤ 7) (q1 : ∀ k, k < nm → p = nI k → Q (some (.int 1)) (zc n, I, J)) (q2 : (∀ k, k < nm → p ≠ nI k) → Q (some (.int 0)) (zc n, I, J)) : pj_D h 212 [.ref 276, .int p] (zc n, I, J) Q := by
  refine pj_ent (g := 0) hh (t := mt_212) rfl rfl (v212_0 (pj_D_le 0) I J _ ?_)
  rw [hB, nI_clamp (by omega), hc]
  exact is_in' (by omega) (vp_in_nI hB2 (by decide)) q1 q2
/-- PegCoatsModel.has2, isThere, whoHas, isOnPeg -/
theorem s207 (hh : 1 ≤ h) {S k : Nat} (hS : S < 2 ^ 31) (hk : k < 32) (q : Q (some (.int (bi (S.testBit k)))) (zc n, I, J)) : pj_D h 207 [.int (nI S), .int (nI k)] (zc n, I, J) Q := by
  refine pj_ent (g := 0) hh (t := mt_207) rfl rfl (v207_0 (pj_D_le 0) I J _ _ ?_)
  rw [nb_bit hS hk]
  cases e : S.testBit k with
  | true => rw [e] at q; exact ⟨fun z => absurd rfl z, fun _ => q⟩
  | false => rw [e] at q; exact ⟨fun _ => q, fun z => absurd z (by decide)⟩
theorem s206 (hh : 2 ≤ h) {S v k : Nat} (hv : v < 22) (hg : I 306 v = nI S) (hS : S < 2 ^ 31) (hk : k < 32) (q : Q (some (.int (bi (!S.testBit k)))) (zc n, I, J)) : pj_D h 206 [.ref 276, .int (nI v), .int (nI k)] (zc n, I, J) Q := by
  refine pj_ent (g := 1) hh (t := mt_206) rfl rfl (v206_0 (pj_D_le 1) I J _ _ ⟨pk_in v 22 hv, ?_⟩)
  rw [nI_clamp (by omega), hg]
  refine s207 (Nat.le_refl 1) hS hk (kI_i ?_)
  cases e : S.testBit k with
  | true => rw [e] at q; exact ⟨fun _ => q, fun z => absurd z (by decide)⟩
  | false => rw [e] at q; exact ⟨fun z => absurd rfl z, fun _ => q⟩
theorem s209 (hh : 1 ≤ h) {v nm B : Nat} {p : Int32} (hv : v < 22) (hB : I 276 13 = nI B) (hB2 : B < 2) (hc : I 281 B = nI nm) (hn : nm ≤ 7) (q : Q (some (.int (wo (ff (fun k => decide (I 304 (7 * v + k) = p)) nm 0)))) (zc n, I, J)) : pj_D h 209 [.ref 276, .int (nI v), .int p] (zc n, I, J) Q := by
  refine pj_ent (g := 0) hh (t := mt_209) rfl rfl (v209_0 (pj_D_le 0) I J _ _ ?_)
  suffices loop : ∀ m k, m + k = nm → Q (some (.int (wo (ff (fun k => decide (I 304 (7 * v + k) = p)) m k)))) (zc n, I, J) → pj_R (pj_D 0) ta mc_209 false Q 2 [some (.ref 276), some (.int (nI v)), some (.int p), some (.int (nI k))] [] (zc n) I J 0 0 from loop nm 0 (by omega) q
  have e7 : ∀ k, (7 : Int32) * nI v + nI k = nI (7 * v + k) := fun k => by
    show nI 7 * nI v + nI k = _
    rw [pk_mul, nI_add]
  intro m
  induction m with
  | zero =>
    intro k hk q
    refine v209_2 (pj_D_le 0) I J _ _ _ ?_
    rw [hB, nI_clamp (by omega), hc]
    exact ⟨vp_in_nI hB2 (by decide), pk_le nm k (fun _ => q) (fun c => by omega)⟩
  | succ m ih =>
    intro k hk q
    refine v209_2 (pj_D_le 0) I J _ _ _ ?_
    rw [hB, nI_clamp (by omega), hc, e7, nI_clamp (by omega), nI_1]
    refine ⟨vp_in_nI hB2 (by decide), pk_le nm k (fun c => by omega) (fun c => ⟨pk_in (7 * v + k) 154 (by omega), ?_⟩)⟩
    unfold ff at q
    by_cases e : I 304 (7 * v + k) = p
    · rw [decide_eq_true e] at q
      exact ⟨fun z => absurd e z, fun _ => q⟩
    · rw [decide_eq_false e] at q
      exact ⟨fun _ => ih (k + 1) (by omega) q, fun z => absurd z e⟩
theorem wo_none {o : Option Nat} (h : ∀ c, o = some c → c < 2 ^ 31) : wo o = -1 ↔ o = none := by
  cases o with
  | none => exact ⟨fun _ => rfl, fun _ => rfl⟩
  | some c =>
    refine ⟨fun e => ?_, fun e => by cases e⟩
    have hp := nI_pos (h c rfl)
    have e : nI c = -1 := e
    rw [e] at hp
    exact absurd (by decide) hp
theorem s208 (hh : 2 ≤ h) {v nm B S c : Nat} (hv : v < 22) (hB : I 276 13 = nI B) (hB2 : B < 2) (hc : I 281 B = nI nm) (hn : nm ≤ 7) (hb : I 300 v = nI S) (hS : S < 2 ^ 31) (hk : c < 32) (q : Q (some (.int (bi (!S.testBit c && (ff (fun k => decide (I 304 (7 * v + k) = nI c)) nm 0).isNone)))) (zc n, I, J)) : pj_D h 208 [.ref 276, .int (nI v), .int (nI c)] (zc n, I, J) Q := by
  refine pj_ent (g := 1) hh (t := mt_208) rfl rfl (v208_0 (pj_D_le 1) I J _ _ ⟨pk_in v 22 hv, ?_⟩)
  rw [nI_clamp (by omega), hb]
  refine s207 (Nat.le_refl 1) hS hk (kI_i ?_)
  cases e : S.testBit c with
  | true => rw [e] at q; exact ⟨fun _ => q, fun z => absurd z (by decide)⟩
  | false =>
    rw [e] at q
    refine ⟨fun z => absurd rfl z, fun _ => s209 (Nat.le_refl 1) hv hB hB2 hc hn (kI_i ?_)⟩
    have hw := wo_none (o := ff (fun k => decide (I 304 (7 * v + k) = nI c)) nm 0) (fun c' hc' => by have := (ff_some hc').2.1; omega)
    cases e2 : ff (fun k => decide (I 304 (7 * v + k) = nI c)) nm 0 with
    | none => rw [e2] at q; exact ⟨fun z => absurd rfl z, fun _ => q⟩
    | some c' =>
      rw [e2] at q hw
      exact ⟨fun _ => q, fun z => absurd (hw.mp z) (by intro y; cases y)⟩
end PSt
