/-! a text: its signs, its sums and tests -/
def blk (c : Nat) : Bool := c == 32 || c == 10
def isl (c : Nat) : Bool := Nat.ble 97 c && Nat.ble c 122
def isd (c : Nat) : Bool := Nat.ble 48 c && Nat.ble c 57
/-- behind blanks -/
def skb (f : Nat → Nat) : Nat → Nat → Nat
  | 0, p => p
  | r + 1, p => match blk (f p) with | true => skb f r (p + 1) | false => p
/-- how many of a kind -/
def run (f : Nat → Nat) (k : Nat → Bool) : Nat → Nat → Nat
  | 0, _ => 0
  | r + 1, p => match k (f p) with | true => run f k r (p + 1) + 1 | false => 0
def lts (f : Nat → Nat) : Nat → Nat → List Nat
  | 0, _ => []
  | m + 1, p => (f p - 96) :: lts f m (p + 1)
def dgs (f : Nat → Nat) (p : Nat) : Nat → Nat
  | 0 => 0
  | m + 1 => 10 * dgs f p m + (f (p + m) - 48)
def jnd (f : Nat → Nat) : Nat → Bool
  | 0 => false
  | q + 1 => isl (f q) || isd (f q)
/-- a sign: kind (0 end, 1 word, 2 number, 3 sign, 4 wrong), where it begins, where it is blamed, what is behind it, its letters, its value -/
abbrev Sg : Type := Nat × Nat × Nat × Nat × List Nat × Nat
def Sg.k (t : Sg) : Nat := t.1
def Sg.st (t : Sg) : Nat := t.2.1
def Sg.pl (t : Sg) : Nat := t.2.2.1
def Sg.nx (t : Sg) : Nat := t.2.2.2.1
def Sg.ls (t : Sg) : List Nat := t.2.2.2.2.1
def Sg.v (t : Sg) : Nat := t.2.2.2.2.2
/-- the sign that begins at a place -/
def sgq (n : Nat) (f : Nat → Nat) (q : Nat) : Sg :=
  if n ≤ q then (0, q, q, q, [], 0)
  else if isl (f q) = true then
    if jnd f q = true then (4, q, q, q + run f isl (n - q) q, [], 1)
    else if 6 < run f isl (n - q) q then (4, q, q + 6, q + run f isl (n - q) q, [], 1)
    else (1, q, q, q + run f isl (n - q) q, lts f (run f isl (n - q) q) q, 0)
  else if isd (f q) = true then
    if jnd f q = true then (4, q, q, q + run f isd (n - q) q, [], 2)
    else if 4 < run f isd (n - q) q then (4, q, q + 4, q + run f isd (n - q) q, [], 2)
    else (2, q, q, q + run f isd (n - q) q, [], dgs f q (run f isd (n - q) q))
  else (3, q, q, q + 1, [], f q)
def sgn (n : Nat) (f : Nat → Nat) (p : Nat) : Sg := sgq n f (skb f (n - p) p)
theorem skb_ge {f : Nat → Nat} : ∀ {r p : Nat}, p ≤ skb f r p ∧ skb f r p ≤ p + r
  | 0, p => ⟨Nat.le_refl _, Nat.le_refl _⟩
  | r + 1, p => by
    unfold skb
    split
    · have := skb_ge (f := f) (r := r) (p := p + 1)
      omega
    · omega
theorem run_le {f : Nat → Nat} {k : Nat → Bool} : ∀ {r p : Nat}, run f k r p ≤ r
  | 0, _ => Nat.le_refl _
  | r + 1, p => by
    unfold run
    split
    · have := run_le (f := f) (k := k) (r := r) (p := p + 1)
      omega
    · omega
theorem run_pos {f : Nat → Nat} {k : Nat → Bool} {r p : Nat} (hr : 0 < r) (h : k (f p) = true) : 0 < run f k r p := by
  obtain ⟨r, rfl⟩ : ∃ s, r = s + 1 := ⟨r - 1, by omega⟩
  unfold run
  rw [h]
  exact Nat.succ_pos _
theorem sgn_nx {n : Nat} {f : Nat → Nat} {p : Nat} (h : (sgn n f p).k ≠ 0) : p < (sgn n f p).nx ∧ (sgn n f p).nx ≤ n := by
  have g := skb_ge (f := f) (r := n - p) (p := p)
  unfold sgn sgq at h ⊢
  generalize skb f (n - p) p = q at g h ⊢
  have r1 := run_le (f := f) (k := isl) (r := n - q) (p := q)
  have r2 := run_le (f := f) (k := isd) (r := n - q) (p := q)
  split at h
  · exact absurd rfl h
  · rename_i c0
    rw [if_neg c0]
    split
    · rename_i c1
      have := run_pos (f := f) (k := isl) (r := n - q) (p := q) (by omega) c1
      split
      · show p < q + _ ∧ q + _ ≤ n; omega
      · split
        · show p < q + _ ∧ q + _ ≤ n; omega
        · show p < q + _ ∧ q + _ ≤ n; omega
    · split
      · rename_i c2
        have := run_pos (f := f) (k := isd) (r := n - q) (p := q) (by omega) c2
        split
        · show p < q + _ ∧ q + _ ≤ n; omega
        · split
          · show p < q + _ ∧ q + _ ≤ n; omega
          · show p < q + _ ∧ q + _ ≤ n; omega
      · show p < q + 1 ∧ q + 1 ≤ n; omega
theorem lts_len {f : Nat → Nat} : ∀ {m p : Nat}, (lts f m p).length = m
  | 0, _ => rfl
  | m + 1, p => congrArg Nat.succ lts_len
theorem dgs_b {f : Nat → Nat} {p : Nat} : ∀ {m : Nat}, (∀ i, i < m → isd (f (p + i)) = true) → dgs f p m + 1 ≤ 10 ^ m
  | 0, _ => Nat.le_refl _
  | m + 1, h => by
    have ih := dgs_b (f := f) (p := p) (m := m) (fun i hi => h i (by omega))
    have := h m (by omega)
    unfold isd at this
    simp only [Bool.and_eq_true, Nat.ble_eq] at this
    unfold dgs
    rw [Nat.pow_succ]
    omega
theorem run_in {f : Nat → Nat} {k : Nat → Bool} : ∀ {r p i : Nat}, i < run f k r p → k (f (p + i)) = true
  | 0, _, i, h => absurd h (Nat.not_lt_zero _)
  | r + 1, p, i, h => by
    unfold run at h
    split at h
    · rename_i c
      cases i with
      | zero => exact c
      | succ i =>
        have := run_in (f := f) (k := k) (r := r) (p := p + 1) (i := i) (by omega)
        rw [show p + (i + 1) = p + 1 + i by omega]
        exact this
    · exact absurd h (Nat.not_lt_zero _)
theorem lts_v {f : Nat → Nat} : ∀ {m p : Nat}, (∀ i, i < m → isl (f (p + i)) = true) → ∀ x, x ∈ lts f m p → 1 ≤ x ∧ x ≤ 26
  | 0, _, _, x, hx => by cases hx
  | m + 1, p, h, x, hx => by
    rcases List.mem_cons.mp hx with rfl | z
    · have := h 0 (by omega)
      unfold isl at this
      simp only [Bool.and_eq_true, Nat.ble_eq, Nat.add_zero] at this
      omega
    · refine lts_v (p := p + 1) (fun i hi => ?_) x z
      have := h (i + 1) (by omega)
      rw [show p + (i + 1) = p + 1 + i by omega] at this
      exact this
theorem sgn_1 {n : Nat} {f : Nat → Nat} {p : Nat} (h : (sgn n f p).k = 1) : nmV (sgn n f p).ls := by
  unfold sgn sgq at h ⊢
  generalize skb f (n - p) p = q at h ⊢
  split at h
  · cases h
  · rename_i c0
    rw [if_neg c0]
    split at h
    · rename_i c1
      rw [if_pos c1]
      split at h
      · cases h
      · rename_i c2
        rw [if_neg c2]
        split at h
        · cases h
        · rename_i c3
          rw [if_neg c3]
          refine ⟨?_, ?_, lts_v (fun i hi => run_in hi)⟩
          · show 1 ≤ (lts f _ _).length
            rw [lts_len]
            exact run_pos (by omega) c1
          · show (lts f _ _).length ≤ 6
            rw [lts_len]
            omega
    · split at h
      · split at h
        · cases h
        · split at h <;> cases h
      · cases h
theorem sgn_2 {n : Nat} {f : Nat → Nat} {p : Nat} (h : (sgn n f p).k = 2) : (sgn n f p).v ≤ 9999 := by
  unfold sgn sgq at h ⊢
  generalize skb f (n - p) p = q at h ⊢
  split at h
  · cases h
  · rename_i c0
    rw [if_neg c0]
    split at h
    · split at h
      · cases h
      · split at h <;> cases h
    · rename_i c1
      rw [if_neg c1]
      split at h
      · rename_i c2
        rw [if_pos c2]
        split at h
        · cases h
        · rename_i c3
          rw [if_neg c3]
          split at h
          · cases h
          · rename_i c4
            rw [if_neg c4]
            have t := dgs_b (f := f) (p := q) (m := run f isd (n - q) q) (fun i hi => run_in hi)
            have : 10 ^ run f isd (n - q) q ≤ 10 ^ 4 := Nat.pow_le_pow_right (by decide) (by omega)
            show dgs f q _ ≤ 9999
            omega
      · cases h
/-- the own words -/
def owl : List (List Nat) := [[3, 15, 1, 20], [19, 9, 26, 5], [16, 1, 25], [13, 1, 14], [1, 7, 5], [23, 5, 1, 18, 19], [15, 6], [23, 1, 18, 13, 19], [7, 18, 15, 23, 19], [12, 5, 1, 22, 5, 19], [6, 9, 18, 5], [25, 5, 1, 18], [12, 9, 14, 9, 14, 7], [16, 21, 18, 19, 5], [3, 15, 1, 20, 5, 4], [9, 6], [15, 18], [1, 14, 4], [14, 15, 20], [1, 12, 12], [13, 9, 14], [13, 1, 24]]
def oww (k : Nat) : List Nat := owl.getD k []
def own (t : Sg) : Option Nat := if t.k = 1 then ff (fun k => decide (oww k = t.ls)) 22 0 else none
def isS (t : Sg) (c : Nat) : Bool := t.k == 3 && t.v == c
abbrev Rs (α : Type) : Type := Except (Nat × Nat) α
def bd {α β : Type} (x : Rs α) (g : α → Rs β) : Rs β := match x with
  | .error e => .error e
  | .ok a => g a
abbrev Pz : Type := Nat → Rs (List Tk × Nat)
section PGr
variable (T : Nat → Sg)
def exS (c p : Nat) : Rs Nat := match isS (T p) c with
  | true => .ok (T p).nx
  | false => .error (1, (T p).pl)
def opn {α : Type} (k p : Nat) (g : Rs α) : Rs α := match k with
  | 0 => .error (5, (T p).st)
  | _ + 1 => g
def chz (k : Nat) (S : Pz) (t : Tk) (p : Nat) : Rs (List Tk × Nat) := match isS (T p) 40 with
  | false => .error (1, (T p).pl)
  | true => opn T k p (bd (S (T p).nx) fun a => bd (exS T 44 a.2) fun q => bd (S q) fun b => bd (exS T 41 b.2) fun q => .ok (a.1 ++ b.1 ++ [t], q))
def iff (k : Nat) (S Te : Pz) (p : Nat) : Rs (List Tk × Nat) := match isS (T p) 40 with
  | false => .error (1, (T p).pl)
  | true => opn T k p (bd (Te (T p).nx) fun c => bd (exS T 44 c.2) fun q => bd (S q) fun a => bd (exS T 44 a.2) fun q => bd (S q) fun b => bd (exS T 41 b.2) fun q => .ok (c.1 ++ (a.1 ++ (b.1 ++ [(4, 0)])), q))
/-- the word's value, if the program may ask it -/
def vwd (pg : Nat) (o : Option Nat) : Option Nat := match o with
  | some 1 => some 1
  | some 4 => some 2
  | some 11 => some 3
  | some 0 => if pg = 0 then some 4 else none
  | some 2 => if pg = 0 then some 5 else none
  | some 12 => if pg = 0 then some 6 else none
  | some 13 => if pg = 2 then some 7 else none
  | some 14 => if pg = 2 then some 8 else none
  | _ => none
def par (pg k : Nat) (S Te : Pz) (p : Nat) : Rs (List Tk × Nat) :=
  if (T p).k = 2 then .ok ([(0, (T p).v)], (T p).nx)
  else if isS (T p) 40 = true then opn T k p (bd (S (T p).nx) fun r => bd (exS T 41 r.2) fun q => .ok (r.1, q))
  else if own (T p) = some 20 then chz T k S (2, 36) (T p).nx
  else if own (T p) = some 21 then chz T k S (2, 37) (T p).nx
  else if own (T p) = some 15 then iff T k S Te (T p).nx
  else match vwd pg (own (T p)) with
    | some w => .ok ([(1, w)], (T p).nx)
    | none => .error (1, (T p).pl)
def lop (op : Sg → Option Nat) (P : Pz) : Nat → List Tk → Nat → Rs (List Tk × Nat)
  | 0, c, p => .ok (c, p)
  | r + 1, c, p => match op (T p) with
    | none => .ok (c, p)
    | some o => bd (P (T p).nx) fun x => lop op P r (c ++ (x.1 ++ [(2, o)])) x.2
def chn (op : Sg → Option Nat) (P : Pz) (p : Nat) : Rs (List Tk × Nat) := bd (P p) fun x => lop T op P 1600 x.1 x.2
def opP (t : Sg) : Option Nat := if isS t 42 = true then some 33 else if isS t 47 = true then some 34 else if isS t 37 = true then some 35 else none
def opS (t : Sg) : Option Nat := if isS t 43 = true then some 31 else if isS t 45 = true then some 32 else none
def opC (t : Sg) : Option Nat := if isS t 60 = true then some 38 else if isS t 62 = true then some 39 else if isS t 61 = true then some 40 else none
def opA (t : Sg) : Option Nat := if own t = some 17 then some 41 else none
def opO (t : Sg) : Option Nat := if own t = some 16 then some 42 else none
def cpr (S : Pz) (p : Nat) : Rs (List Tk × Nat) := bd (S p) fun a => match opC (T a.2) with
  | none => .error (1, (T a.2).pl)
  | some o => bd (S (T a.2).nx) fun b => .ok (a.1 ++ (b.1 ++ [(2, o)]), b.2)
def fct (k : Nat) (S Te F : Pz) (p : Nat) : Rs (List Tk × Nat) :=
  if own (T p) = some 18 then opn T k p (bd (F (T p).nx) fun x => .ok (x.1 ++ [(3, 0)], x.2))
  else if isS (T p) 91 = true then opn T k p (bd (Te (T p).nx) fun x => bd (exS T 93 x.2) fun q => .ok (x.1, q))
  else if own (T p) = some 19 then .ok ([(5, 0)], (T p).nx)
  else cpr T S p
def dumz : Pz := fun _ => .error (5, 0)
/-- parts, products, sums; facts, tests, with so many more to be left to begin -/
def lvN (pg k : Nat) (lo : Pz × Pz × Pz) : Pz × Pz × Pz :=
  (chn T opS (chn T opP (par T pg k lo.1 lo.2.1)),
    chn T opO (chn T opA (fct T k (chn T opS (chn T opP (par T pg k lo.1 lo.2.1))) lo.2.1 lo.2.2)),
    fct T k (chn T opS (chn T opP (par T pg k lo.1 lo.2.1))) lo.2.1 lo.2.2)
def lev (pg : Nat) : Nat → Pz × Pz × Pz
  | 0 => lvN T pg 0 (dumz, dumz, dumz)
  | k + 1 => lvN T pg (k + 1) (lev pg k)
end PGr
theorem bd_ok {α β : Type} {x : Rs α} {g : α → Rs β} {y : β} (h : bd x g = .ok y) : ∃ a, x = .ok a ∧ g a = .ok y := by
  cases x with
  | error e => cases h
  | ok a => exact ⟨a, rfl, h⟩
theorem exS_ok {T : Nat → Sg} {c p q : Nat} (h : exS T c p = .ok q) : isS (T p) c = true ∧ q = (T p).nx := by
  unfold exS at h
  cases e : isS (T p) c with
  | false => rw [e] at h; cases h
  | true => rw [e] at h; cases h; exact ⟨rfl, rfl⟩
theorem isS_k {t : Sg} {c : Nat} (h : isS t c = true) : t.k = 3 ∧ t.v = c := by
  unfold isS at h
  rw [Bool.and_eq_true, beq_iff_eq, beq_iff_eq] at h
  exact h
theorem own_k {t : Sg} {c : Nat} (h : own t = some c) : t.k = 1 := by
  unfold own at h
  split at h
  · assumption
  · cases h
theorem vwd_al {pg w : Nat} {o : Option Nat} (h : vwd pg o = some w) : al pg w = true ∧ ∃ c, o = some c ∧ c = cw w := by
  unfold vwd at h
  split at h <;> first | (cases h; done) | skip
  all_goals (try split at h) <;> first | (cases h; done) | skip
  all_goals cases h
  all_goals first | exact ⟨by unfold al; simp [*], _, rfl, by decide⟩ | (rename_i z; subst z; exact ⟨by decide, _, rfl, by decide⟩)
