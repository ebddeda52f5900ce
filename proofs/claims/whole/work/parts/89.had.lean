/-! had, tells: what is told, on layers -/
def Ly.swr (L : Ly) (m : Nat) (o : Option Nat) : Ly := (L.yr, L.lin, L.bur, L.siz, L.age, upd1 L.wor m o, L.pur, L.the)
def chO (ch : Nat) : Option Nat := if ch = 0 then none else some (ch - 1)
def cho (W : Wk) (L : Ly) (m ch : Nat) : Bool := ch == 0 || (decide (ch ≤ W.nc) && (peg W L (ch - 1) || decide (L.wor m = some (ch - 1))))
def scn (W : Wk) (L : Ly) (m ch k : Nat) : Ly := yN W (L.swr m (chO ch)) k
def rok (A : Ab) (m ch i : Nat) : Bool := decide (A.L.yr + (A.rw.2 i).1 ≤ 999) && decide ((scn A.W A.L m ch (A.rw.2 i).1).wor (A.rw.2 i).2.1 = (A.rw.2 i).2.2)
def allN (p : Nat → Bool) : Nat → Bool
  | 0 => true
  | k + 1 => allN p k && p k
def lef (A : Ab) (m ch : Nat) : Bool := cho A.W A.L m ch && allN (rok A m ch) A.rw.1
def hadV (A : Ab) (p : Int32) : Int32 := match tix A.W A.L p with
  | none => -1
  | some m => nI (bs (lef A m) 9)
theorem swr_LV {W : Wk} {L : Ly} {m ch : Nat} (h : LV W L) (hm : m < W.nm) (ht : L.the m = true) (hc : cho W L m ch = true) : LV W (L.swr m (chO ch)) := by
  obtain ⟨h0, h1, h2, h3, h4⟩ := h
  have key : ∀ c, chO ch = some c → c < W.nc ∧ L.bur c = false ∧ ∀ k, k < W.nm → k ≠ m → L.wor k ≠ some c := by
    intro c e
    unfold chO at e
    by_cases z : ch = 0
    · rw [if_pos z] at e; cases e
    · rw [if_neg z] at e
      cases e
      unfold cho at hc
      rw [beq_eq_false_iff_ne.mpr z, Bool.false_or, Bool.and_eq_true, Bool.or_eq_true] at hc
      have hl := of_decide_eq_true hc.1
      rcases hc.2 with y | y
      · obtain ⟨p1, p2⟩ := peg_p y
        exact ⟨by omega, p1, fun k hk _ => p2 k hk⟩
      · have y := of_decide_eq_true y
        obtain ⟨p1, p2, p3⟩ := h3 m _ hm y
        exact ⟨p1, p2, fun k hk hn e => hn (h4 k m _ hk hm e y)⟩
  refine ⟨h0, h1, h2, fun k c hk e => ?_, fun j k c hj hk e1 e2 => ?_⟩
  · have e : upd1 L.wor m (chO ch) k = some c := e
    by_cases z : k = m
    · rw [z, upd1_e] at e
      have := key c e
      rw [z]
      exact ⟨this.1, this.2.1, ht⟩
    · rw [upd1_n z] at e
      exact h3 k c hk e
  · have e1 : upd1 L.wor m (chO ch) j = some c := e1
    have e2 : upd1 L.wor m (chO ch) k = some c := e2
    by_cases z : j = m
    · by_cases y : k = m
      · rw [z, y]
      · rw [z, upd1_e] at e1
        rw [upd1_n y] at e2
        exact absurd e2 ((key c e1).2.2 k hk y)
    · by_cases y : k = m
      · rw [upd1_n z] at e1
        rw [y, upd1_e] at e2
        exact absurd e1 ((key c e2).2.2 j hj z)
      · rw [upd1_n z] at e1
        rw [upd1_n y] at e2
        exact h4 j k c hj hk e1 e2
theorem scn_V {W : Wk} {L : Ly} {m ch k : Nat} (h : LV W L) (hm : m < W.nm) (ht : L.the m = true) (hc : cho W L m ch = true) (hk : L.yr + k ≤ 999) : LV W (scn W L m ch k) ∧ (scn W L m ch k).yr = L.yr + k := yN_V (swr_LV h hm ht hc) hk
theorem cho_9 {W : Wk} {L : Ly} {m ch : Nat} (h8 : W.nc ≤ 8) (hc : cho W L m ch = true) : ch ≤ W.nc := by
  unfold cho at hc
  rw [Bool.or_eq_true, Bool.and_eq_true] at hc
  rcases hc with z | z
  · have := beq_iff_eq.mp z
    omega
  · exact of_decide_eq_true z.1
/-- who wears what, a digit a man -/
def oF (v : Nat → Nat) : Nat → Nat
  | 0 => 0
  | k + 1 => oF v k + v k * 16 ^ k
theorem oF_lt {v : Nat → Nat} (hv : ∀ i, v i < 16) : ∀ k, oF v k < 16 ^ k
  | 0 => by show 0 < 1; decide
  | k + 1 => by
    have ih := oF_lt hv k
    have h1 := hv k
    have h2 : v k * 16 ^ k ≤ 15 * 16 ^ k := Nat.mul_le_mul_right _ (by omega)
    show oF v k + v k * 16 ^ k < 16 ^ (k + 1)
    rw [Nat.pow_succ]
    omega
theorem oF_d {v : Nat → Nat} (hv : ∀ i, v i < 16) : ∀ {k j : Nat}, j < k → oF v k / 16 ^ j % 16 = v j
  | 0, j, h => by omega
  | k + 1, j, h => by
    have hp : 0 < 16 ^ j := Nat.pow_pos (by decide)
    show (oF v k + v k * 16 ^ k) / 16 ^ j % 16 = v j
    rcases Nat.lt_or_ge j k with z | z
    · have e : v k * 16 ^ k = v k * 16 ^ (k - j - 1) * 16 * 16 ^ j := by
        rw [Nat.mul_assoc, Nat.mul_assoc, ← Nat.pow_succ', ← Nat.pow_add]
        congr 2
        omega
      rw [e, Nat.add_mul_div_right _ _ hp, Nat.add_mul_mod_self_right]
      exact oF_d hv z
    · obtain rfl : j = k := by omega
      rw [Nat.add_mul_div_right _ _ hp, Nat.div_eq_of_lt (oF_lt hv j), Nat.zero_add]
      exact Nat.mod_eq_of_lt (hv j)
def wv (L : Ly) (j : Nat) : Nat := match L.wor j with | none => 8 | some c => if c < 8 then c else 8
theorem wv_16 (L : Ly) (j : Nat) : wv L j < 16 := by
  unfold wv
  split
  · decide
  · split <;> omega
theorem wv_c {W : Wk} {L : Ly} {j : Nat} (h8 : W.nc ≤ 8) (hV : LV W L) (hj : j < W.nm) : wv L j = (L.wor j).getD 8 := by
  unfold wv
  cases e : L.wor j with
  | none => rfl
  | some c =>
    have := LV_c hV hj e
    show (if c < 8 then c else 8) = c
    rw [if_pos (by omega)]
theorem wv_eq {W : Wk} {L : Ly} {j : Nat} {o : Option Nat} (h8 : W.nc ≤ 8) (hV : LV W L) (hj : j < W.nm) (ho : ∀ c, o = some c → c < W.nc) : wv L j = o.getD 8 ↔ L.wor j = o := by
  rw [wv_c h8 hV hj]
  cases e : L.wor j with
  | none =>
    cases o with
    | none => exact ⟨fun _ => rfl, fun _ => rfl⟩
    | some c =>
      have := ho c rfl
      refine ⟨fun z => ?_, fun z => by cases z⟩
      have z : (8 : Nat) = c := z
      omega
  | some d =>
    have hd := LV_c hV hj e
    cases o with
    | none =>
      refine ⟨fun z => ?_, fun z => by cases z⟩
      have z : d = (8 : Nat) := z
      omega
    | some c =>
      refine ⟨fun z => ?_, fun z => ?_⟩
      · have z : d = c := z
        rw [z]
      · cases z; rfl
/-- how many of the first k choices left tell v -/
def cuv (p : Nat → Bool) (g : Nat → Nat) (v : Nat) (k : Nat) : Nat := cu (fun i => p i && decide (g i = v)) k
/-- the greatest count, as it grows -/
def moC (p : Nat → Bool) (g : Nat → Nat) : Nat → Nat
  | 0 => 0
  | k + 1 => match p k with
    | true => if moC p g k < cuv p g (g k) (k + 1) then cuv p g (g k) (k + 1) else moC p g k
    | false => moC p g k
/-- the greatest count, by pairs -/
def moM (p : Nat → Bool) (g : Nat → Nat) (N : Nat) : Nat → Nat
  | 0 => 0
  | a + 1 => if (match p a with | true => cuv p g (g a) N | false => 0) ≤ moM p g N a then moM p g N a else (match p a with | true => cuv p g (g a) N | false => 0)
theorem cuv_mono {p : Nat → Bool} {g : Nat → Nat} {v a b : Nat} (h : a ≤ b) : cuv p g v a ≤ cuv p g v b := by
  induction b with
  | zero =>
    obtain rfl : a = 0 := by omega
    exact Nat.le_refl _
  | succ b ih =>
    rcases Nat.lt_or_ge a (b + 1) with z | z
    · have := ih (by omega)
      have e : cuv p g v (b + 1) = cuv p g v b + (match p b && decide (g b = v) with | true => 1 | false => 0) := rfl
      rw [e]
      omega
    · obtain rfl : a = b + 1 := by omega
      exact Nat.le_refl _
theorem moC_ub {p : Nat → Bool} {g : Nat → Nat} : ∀ {k i : Nat}, i < k → p i = true → cuv p g (g i) (i + 1) ≤ moC p g k
  | 0, i, h, _ => by omega
  | k + 1, i, h, hp => by
    unfold moC
    rcases Nat.lt_or_ge i k with z | z
    · have ih := moC_ub (g := g) z hp
      cases e : p k with
      | true => simp only; split <;> omega
      | false => exact ih
    · obtain rfl : i = k := by omega
      rw [hp]
      simp only
      split <;> omega
theorem moC_at {p : Nat → Bool} {g : Nat → Nat} : ∀ {k : Nat}, moC p g k = 0 ∨ ∃ i, i < k ∧ p i = true ∧ moC p g k = cuv p g (g i) (i + 1)
  | 0 => Or.inl rfl
  | k + 1 => by
    have ih := moC_at (p := p) (g := g) (k := k)
    unfold moC
    cases e : p k with
    | true =>
      simp only
      split
      · exact Or.inr ⟨k, by omega, e, rfl⟩
      · rcases ih with z | ⟨i, h1, h2, h3⟩
        · exact Or.inl z
        · exact Or.inr ⟨i, by omega, h2, h3⟩
    | false =>
      rcases ih with z | ⟨i, h1, h2, h3⟩
      · exact Or.inl z
      · exact Or.inr ⟨i, by omega, h2, h3⟩
theorem moM_ub {p : Nat → Bool} {g : Nat → Nat} {N : Nat} : ∀ {a i : Nat}, i < a → p i = true → cuv p g (g i) N ≤ moM p g N a
  | 0, i, h, _ => by omega
  | a + 1, i, h, hp => by
    unfold moM
    rcases Nat.lt_or_ge i a with z | z
    · have ih := moM_ub (g := g) (N := N) z hp
      cases p a <;> simp only <;> split <;> omega
    · obtain rfl : i = a := by omega
      rw [hp]
      simp only
      split <;> omega
theorem moM_at {p : Nat → Bool} {g : Nat → Nat} {N : Nat} : ∀ {a : Nat}, moM p g N a = 0 ∨ ∃ i, i < a ∧ p i = true ∧ moM p g N a = cuv p g (g i) N
  | 0 => Or.inl rfl
  | a + 1 => by
    have ih := moM_at (p := p) (g := g) (N := N) (a := a)
    have old : moM p g N a = 0 ∨ ∃ i, i < a + 1 ∧ p i = true ∧ moM p g N a = cuv p g (g i) N := by
      rcases ih with z | ⟨i, h1, h2, h3⟩
      · exact Or.inl z
      · exact Or.inr ⟨i, by omega, h2, h3⟩
    unfold moM
    cases e : p a with
    | true =>
      simp only
      by_cases c : cuv p g (g a) N ≤ moM p g N a
      · rw [if_pos c]; exact old
      · rw [if_neg c]; exact Or.inr ⟨a, by omega, e, rfl⟩
    | false =>
      simp only
      rw [if_pos (Nat.zero_le _)]
      exact old
/-- the last of those that tell the same -/
theorem cuv_last {p : Nat → Bool} {g : Nat → Nat} {v : Nat} : ∀ {N : Nat}, 0 < cuv p g v N → ∃ i, i < N ∧ p i = true ∧ g i = v ∧ cuv p g v (i + 1) = cuv p g v N
  | 0, h => by cases h
  | N + 1, h => by
    have e : cuv p g v (N + 1) = cuv p g v N + (match p N && decide (g N = v) with | true => 1 | false => 0) := rfl
    cases e2 : (p N && decide (g N = v)) with
    | true =>
      rw [Bool.and_eq_true] at e2
      exact ⟨N, by omega, e2.1, of_decide_eq_true e2.2, rfl⟩
    | false =>
      rw [e2] at e
      have e : cuv p g v (N + 1) = cuv p g v N := e
      rw [e] at h ⊢
      obtain ⟨i, h1, h2, h3, h4⟩ := cuv_last (N := N) h
      exact ⟨i, by omega, h2, h3, h4⟩
theorem mo_eq {p : Nat → Bool} {g : Nat → Nat} {N : Nat} : moC p g N = moM p g N N := by
  apply Nat.le_antisymm
  · rcases moC_at (p := p) (g := g) (k := N) with z | ⟨i, h1, h2, h3⟩
    · omega
    · rw [h3]
      exact Nat.le_trans (cuv_mono (by omega)) (moM_ub h1 h2)
  · rcases moM_at (p := p) (g := g) (N := N) (a := N) with z | ⟨i, h1, h2, h3⟩
    · omega
    · rcases Nat.eq_zero_or_pos (cuv p g (g i) N) with z | z
      · omega
      · obtain ⟨j, j1, j2, j3, j4⟩ := cuv_last z
        rw [h3, ← j4]
        have := moC_ub (p := p) (g := g) j1 j2
        rw [j3] at this
        exact this
theorem cu_ext {p : Nat → Bool} {a b : Nat} (h : a ≤ b) (hz : ∀ j, a ≤ j → j < b → p j = false) : cu p a = cu p b := by
  induction b with
  | zero =>
    obtain rfl : a = 0 := by omega
    rfl
  | succ b ih =>
    rcases Nat.lt_or_ge a (b + 1) with z | z
    · rw [ih (by omega) (fun j h1 h2 => hz j h1 (by omega))]
      show cu p b = cu p b + (match p b with | true => 1 | false => 0)
      rw [hz b (by omega) (by omega)]
      rfl
    · obtain rfl : a = b + 1 := by omega
      rfl
