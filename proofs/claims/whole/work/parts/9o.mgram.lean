/-! the reference's reading of sums and tests, as steps -/
abbrev Fr : Type := Nat × Nat × Bool × Nat × List Nat
abbrev Cf : Type := List Fr × List Tk × Nat × Nat × Bool
def rnk (x : Nat) : Nat := if x = 42 then 1 else if x = 41 then 2 else if x = 43 then 3 else if x = 38 ∨ x = 39 ∨ x = 40 then 4 else if x = 31 ∨ x = 32 then 5 else 6
def tkO (x : Nat) : Tk := if x = 43 then (3, 0) else if x = 44 then (4, 0) else (2, x)
def nts : List Nat → Nat
  | [] => 0
  | x :: l => nts l + (if x = 43 then 1 else 0)
def flu (r : Nat) : List Nat → List Tk → Nat → List Nat × List Tk × Nat
  | [], C, o => ([], C, o)
  | x :: l, C, o => if rnk x < r then (x :: l, C, o) else flu r l (C ++ [tkO x]) (if x = 43 then o - 1 else o)
def sto (r : Nat) (l : List Nat) : Prop := ∀ x l', l = x :: l' → rnk x < r
def tot : List Fr → Nat
  | [] => 0
  | F :: r => F.2.2.2.2.length + tot r
theorem sto_0 {r : Nat} : sto r [] := fun x l e => by cases e
theorem sto_c {r x : Nat} {l : List Nat} (h : rnk x < r) : sto r (x :: l) := fun y l' e => by cases e; exact h
theorem sto_m {r r' : Nat} {l : List Nat} (h : r ≤ r') (s : sto r l) : sto r' l := fun x l' e => Nat.lt_of_lt_of_le (s x l' e) h
theorem flu_a {r : Nat} {os : List Nat} (hs : sto r os) : ∀ {pd : List Nat} {C : List Tk} {o : Nat}, (∀ x, x ∈ pd → r ≤ rnk x) → flu r (pd ++ os) C (o + nts pd) = (os, C ++ pd.map tkO, o)
  | [], C, o, _ => by
    show flu r os C o = (os, C ++ [], o)
    rw [List.append_nil]
    cases os with
    | nil => rfl
    | cons x l =>
      unfold flu
      rw [if_pos (hs x l rfl)]
  | x :: pd, C, o, h => by
    show flu r (x :: (pd ++ os)) C (o + nts (x :: pd)) = _
    unfold flu nts
    rw [if_neg (by have := h x List.mem_cons_self; omega)]
    have e : (if x = 43 then o + (nts pd + if x = 43 then 1 else 0) - 1 else o + (nts pd + if x = 43 then 1 else 0)) = o + nts pd := by
      split <;> omega
    rw [e, flu_a hs (fun y hy => h y (List.mem_cons_of_mem _ hy))]
    simp
theorem nts_a : ∀ {a b : List Nat}, nts (a ++ b) = nts a + nts b
  | [], b => by
    show nts b = 0 + nts b
    omega
  | x :: a, b => by
    show nts (a ++ b) + _ = nts a + _ + nts b
    rw [nts_a (a := a) (b := b)]
    omega
theorem rnk_6 (x : Nat) : rnk x ≤ 6 := by
  unfold rnk
  repeat' split
  all_goals omega
def isT (kd : Nat) : Bool := kd == 1 || kd == 5 || kd == 6
section PSt
variable (T : Nat → Sg) (pg : Nat) (G : Cf → Prop) (E : Nat × Nat → Prop) (DN : List Tk → Nat → Prop)
def opz (kd pa : Nat) (fs : List Fr) (C : List Tk) (o p : Nat) : Prop := if o = 7 then E (5, (T p).st) else G ((kd, 0, true, pa, []) :: fs, C, o + 1, (T p).nx, false)
def chI (kd pa : Nat) (fs : List Fr) (C : List Tk) (o p : Nat) : Prop := if (T p).k = 4 then E (1, (T p).pl) else if isS (T p) 40 = true then opz T G E kd pa fs C o p else E (1, (T p).st)
/-- what may begin a part -/
def stP (kd ph pa : Nat) (os : List Nat) (fs : List Fr) (C : List Tk) (o p : Nat) : Prop :=
  if isS (T p) 40 = true then opz T G E 2 0 ((kd, ph, false, pa, os) :: fs) C o p
  else if own (T p) = some 20 then chI T G E 3 36 ((kd, ph, false, pa, os) :: fs) C o (T p).nx
  else if own (T p) = some 21 then chI T G E 3 37 ((kd, ph, false, pa, os) :: fs) C o (T p).nx
  else if own (T p) = some 15 then chI T G E 6 44 ((kd, ph, false, pa, os) :: fs) C o (T p).nx
  else if (T p).k = 2 then G ((kd, ph, false, pa, os) :: fs, C ++ [(0, (T p).v)], o, (T p).nx, true)
  else match vwd pg (own (T p)) with
    | some w => G ((kd, ph, false, pa, os) :: fs, C ++ [(1, w)], o, (T p).nx, true)
    | none => E (1, (T p).st)
/-- an operand -/
def stO (kd ph : Nat) (bg : Bool) (pa : Nat) (os : List Nat) (fs : List Fr) (C : List Tk) (o p : Nat) : Prop :=
  if (T p).k = 4 then E (1, (T p).pl)
  else if (isT kd && bg) = true ∧ own (T p) = some 18 then (if o = 7 then E (5, (T p).st) else G ((kd, ph, bg, pa, 43 :: os) :: fs, C, o + 1, (T p).nx, false))
  else if (isT kd && bg) = true ∧ isS (T p) 91 = true then opz T G E 5 0 ((kd, ph, false, pa, os) :: fs) C o p
  else if (isT kd && bg) = true ∧ own (T p) = some 19 then G ((kd, 2, false, pa, os) :: fs, C ++ [(5, 0)], o, (T p).nx, true)
  else stP T pg G E kd ph pa os fs C o p
/-- what ends a frame -/
def stE (kd ph : Nat) (bg : Bool) (pa : Nat) (fs : List Fr) (C : List Tk) (os : List Nat) (o p : Nat) : Prop :=
  if kd < 2 then DN C p
  else if kd = 3 ∨ kd = 6 then (if isS (T p) 44 = true then G ((if kd = 3 then 4 else 3, 0, bg, pa, os) :: fs, C, o, (T p).nx, false) else E (1, (T p).st))
  else if isS (T p) (if kd = 5 then 93 else 41) = true then (match fs with
    | [] => False
    | F :: r => G ((F.1, (if kd = 5 then 2 else F.2.1), F.2.2) :: r, (if kd = 4 then C ++ [tkO pa] else C), o - 1, (T p).nx, true))
  else E (1, (T p).st)
/-- behind an operand -/
def stG (kd ph : Nat) (bg : Bool) (pa : Nat) (os : List Nat) (fs : List Fr) (C : List Tk) (o p : Nat) : Prop :=
  if (T p).k = 4 then E (1, (T p).pl)
  else if ph < 2 ∧ (opS (T p)).isSome = true then G ((kd, ph, bg, pa, (opS (T p)).getD 0 :: (flu 5 os C o).1) :: fs, (flu 5 os C o).2.1, (flu 5 os C o).2.2, (T p).nx, false)
  else if ph < 2 ∧ (opP (T p)).isSome = true then G ((kd, ph, bg, pa, (opP (T p)).getD 0 :: (flu 6 os C o).1) :: fs, (flu 6 os C o).2.1, (flu 6 os C o).2.2, (T p).nx, false)
  else if isT kd = true ∧ ph = 0 ∧ (opC (T p)).isSome = true then G ((kd, 1, bg, pa, (opC (T p)).getD 0 :: (flu 5 os C o).1) :: fs, (flu 5 os C o).2.1, (flu 5 os C o).2.2, (T p).nx, false)
  else if isT kd = true ∧ own (T p) = some 17 then (if ph = 0 then E (1, (T p).st) else G ((kd, 0, true, pa, 41 :: (flu 2 os C o).1) :: fs, (flu 2 os C o).2.1, (flu 2 os C o).2.2, (T p).nx, false))
  else if isT kd = true ∧ own (T p) = some 16 then (if ph = 0 then E (1, (T p).st) else G ((kd, 0, true, pa, 42 :: (flu 1 os C o).1) :: fs, (flu 1 os C o).2.1, (flu 1 os C o).2.2, (T p).nx, false))
  else if isT kd = true ∧ ph = 0 then E (1, (T p).st)
  else stE T G E DN kd ph bg pa fs (flu 1 os C o).2.1 (flu 1 os C o).1 (flu 1 os C o).2.2 p
/-- what makes a configuration good -/
def ClO : Prop := ∀ kd ph bg pa os fs C o p, os.length + tot fs ≤ 490 → fs.length ≤ 17 → stO T pg G E kd ph bg pa os fs C o p → G ((kd, ph, bg, pa, os) :: fs, C, o, p, false)
def ClG : Prop := ∀ kd ph bg pa os fs C o p, os.length + tot fs ≤ 490 → fs.length ≤ 17 → stG T G E DN kd ph bg pa os fs C o p → G ((kd, ph, bg, pa, os) :: fs, C, o, p, true)
def fsb (kd : Nat) (bg : Bool) (p : Nat) : Prop := (isT kd && bg) = true → own (T p) ≠ some 18 ∧ isS (T p) 91 = false ∧ own (T p) ≠ some 19
/-- a sum (product, part) read by steps -/
def SpS (X : Pz) (r o N L : Nat) : Prop := ∀ kd ph bg pa os fs C p, ph < 2 → fsb T kd bg p → sto r os → os.length + tot fs + N ≤ 490 → fs.length + L ≤ 17 → (∀ e, X p = .error e → E e) → (∀ c p', X p = .ok (c, p') → ∀ C' pd, C' ++ pd.map tkO = C ++ c → (∀ x, x ∈ pd → r ≤ rnk x) → pd.length ≤ N → G ((kd, ph, false, pa, pd ++ os) :: fs, C', o + nts pd, p', true)) → G ((kd, ph, bg, pa, os) :: fs, C, o, p, false)
/-- a test (both, fact) read by steps -/
def SpT (X : Pz) (r q o N L : Nat) : Prop := ∀ kd pa os fs C p, isT kd = true → sto q os → os.length + tot fs + N ≤ 490 → fs.length + L ≤ 17 → (∀ e, X p = .error e → E e) → (∀ c p', X p = .ok (c, p') → ∀ C' pd ph, (ph = 1 ∧ opS (T p') = none ∧ opP (T p') = none ∨ ph = 2) → C' ++ pd.map tkO = C ++ c → (∀ x, x ∈ pd → r ≤ rnk x) → pd.length ≤ N → G ((kd, ph, false, pa, pd ++ os) :: fs, C', o + nts pd, p', true)) → G ((kd, 0, true, pa, os) :: fs, C, o, p, false)
end PSt
theorem op_x {t : Sg} {x : Nat} {op : Sg → Option Nat} (ho : ∀ t o, op t = some o → t.k ≠ 0 ∧ 31 ≤ o ∧ o ≤ 42 ∧ decide (41 ≤ o) = false ∧ decide (38 ≤ o) = false) (h : op t = some x) : x ≠ 43 ∧ tkO x = (2, x) := by
  have := ho t x h
  refine ⟨by omega, ?_⟩
  unfold tkO
  rw [if_neg (by omega), if_neg (by omega)]
theorem opS_r {t : Sg} {x : Nat} (h : opS t = some x) : rnk x = 5 ∧ x ≠ 43 ∧ tkO x = (2, x) ∧ t.k = 3 := by
  unfold opS at h
  split at h
  · cases h; exact ⟨by decide, by decide, by decide, (isS_k (by assumption)).1⟩
  · split at h
    · cases h; exact ⟨by decide, by decide, by decide, (isS_k (by assumption)).1⟩
    · cases h
theorem opP_r {t : Sg} {x : Nat} (h : opP t = some x) : rnk x = 6 ∧ x ≠ 43 ∧ tkO x = (2, x) ∧ t.k = 3 := by
  unfold opP at h
  split at h
  · cases h; exact ⟨by decide, by decide, by decide, (isS_k (by assumption)).1⟩
  · split at h
    · cases h; exact ⟨by decide, by decide, by decide, (isS_k (by assumption)).1⟩
    · split at h
      · cases h; exact ⟨by decide, by decide, by decide, (isS_k (by assumption)).1⟩
      · cases h
theorem opC_r {t : Sg} {x : Nat} (h : opC t = some x) : rnk x = 4 ∧ x ≠ 43 ∧ tkO x = (2, x) ∧ t.k = 3 := by
  unfold opC at h
  split at h
  · cases h; exact ⟨by decide, by decide, by decide, (isS_k (by assumption)).1⟩
  · split at h
    · cases h; exact ⟨by decide, by decide, by decide, (isS_k (by assumption)).1⟩
    · split at h
      · cases h; exact ⟨by decide, by decide, by decide, (isS_k (by assumption)).1⟩
      · cases h
theorem isS_ne {t : Sg} {a b : Nat} (h : isS t a = true) (hab : a ≠ b) : isS t b = false := by
  cases e : isS t b with
  | false => rfl
  | true =>
    have h1 := (isS_k h).2
    have h2 := (isS_k e).2
    omega
theorem isS_nk {t : Sg} {b : Nat} (h : t.k ≠ 3) : isS t b = false := by
  cases e : isS t b with
  | false => rfl
  | true => exact absurd (isS_k e).1 h
theorem own_nk {t : Sg} (h : t.k ≠ 1) : own t = none := by unfold own; rw [if_neg h]
theorem op_nk {t : Sg} (h : t.k ≠ 3) : opS t = none ∧ opP t = none ∧ opC t = none := by
  unfold opS opP opC
  simp only [isS_nk h]
  exact ⟨rfl, rfl, rfl⟩
theorem opP_S {t : Sg} {x : Nat} (h : opP t = some x) : opS t = none := by
  unfold opP at h
  unfold opS
  split at h
  · rename_i a
    rw [if_neg (by rw [isS_ne a (by decide)]; decide), if_neg (by rw [isS_ne a (by decide)]; decide)]
  · split at h
    · rename_i a
      rw [if_neg (by rw [isS_ne a (by decide)]; decide), if_neg (by rw [isS_ne a (by decide)]; decide)]
    · split at h
      · rename_i a
        rw [if_neg (by rw [isS_ne a (by decide)]; decide), if_neg (by rw [isS_ne a (by decide)]; decide)]
      · cases h
theorem opC_SP {t : Sg} {x : Nat} (h : opC t = some x) : opS t = none ∧ opP t = none := by
  unfold opC at h
  unfold opS opP
  split at h
  · rename_i a
    rw [if_neg (by rw [isS_ne a (by decide)]; decide), if_neg (by rw [isS_ne a (by decide)]; decide), if_neg (by rw [isS_ne a (by decide)]; decide), if_neg (by rw [isS_ne a (by decide)]; decide), if_neg (by rw [isS_ne a (by decide)]; decide)]
    exact ⟨rfl, rfl⟩
  · split at h
    · rename_i a
      rw [if_neg (by rw [isS_ne a (by decide)]; decide), if_neg (by rw [isS_ne a (by decide)]; decide), if_neg (by rw [isS_ne a (by decide)]; decide), if_neg (by rw [isS_ne a (by decide)]; decide), if_neg (by rw [isS_ne a (by decide)]; decide)]
      exact ⟨rfl, rfl⟩
    · split at h
      · rename_i a
        rw [if_neg (by rw [isS_ne a (by decide)]; decide), if_neg (by rw [isS_ne a (by decide)]; decide), if_neg (by rw [isS_ne a (by decide)]; decide), if_neg (by rw [isS_ne a (by decide)]; decide), if_neg (by rw [isS_ne a (by decide)]; decide)]
        exact ⟨rfl, rfl⟩
      · cases h
/-! where chains end -/
theorem lop_end {T : Nat → Sg} {n : Nat} {op : Sg → Option Nat} {P : Pz} {φ : Nat → Prop} (hT : TN n T) (hn : n ≤ 1600) (hz : ∀ p, n ≤ p → op (T p) = none) (ho : ∀ t o, op t = some o → t.k ≠ 0) (hl : ∀ p c p', P p = .ok (c, p') → p ≤ p') (hp : ∀ p c p', P p = .ok (c, p') → φ p') : ∀ (r : Nat) (c : List Tk) (p : Nat) (c' : List Tk) (p' : Nat), 1600 ≤ p + r → φ p → lop T op P r c p = .ok (c', p') → op (T p') = none ∧ φ p'
  | 0, c, p, c', p', h1, h2, e => by
    have e : Except.ok (ε := Nat × Nat) (c, p) = .ok (c', p') := e
    cases e
    exact ⟨hz p (by omega), h2⟩
  | r + 1, c, p, c', p', h1, h2, e => by
    unfold lop at e
    cases eo : op (T p) with
    | none =>
      rw [eo] at e
      cases e
      exact ⟨eo, h2⟩
    | some o =>
      rw [eo] at e
      obtain ⟨⟨x, px⟩, e1, e2⟩ := bd_ok e
      have := hl _ _ _ e1
      have := hT.1 p (ho _ _ eo)
      exact lop_end hT hn hz ho hl hp r _ px c' p' (by omega) (hp _ _ _ e1) e2
theorem chn_end {T : Nat → Sg} {n : Nat} {op : Sg → Option Nat} {P : Pz} {φ : Nat → Prop} (hT : TN n T) (hn : n ≤ 1600) (hz : ∀ p, n ≤ p → op (T p) = none) (ho : ∀ t o, op t = some o → t.k ≠ 0) (hl : ∀ p c p', P p = .ok (c, p') → p ≤ p') (hp : ∀ p c p', P p = .ok (c, p') → φ p') {p : Nat} {c : List Tk} {p' : Nat} (e : chn T op P p = .ok (c, p')) : op (T p') = none ∧ φ p' := by
  obtain ⟨⟨x, px⟩, e1, e2⟩ := bd_ok e
  exact lop_end hT hn hz ho hl hp 1600 x px c p' (by omega) (hp _ _ _ e1) e2
