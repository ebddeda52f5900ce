/-! programs: rows of tokens; their kinds and their values -/
/-- (0, v) a number, (1, w) what a word asks, (2, o) what two make, (3, 0) not, (4, 0) if, (5, 0) all -/
abbrev Tk : Type := Nat × Nat
/-- the words that program p may ask -/
def al (p w : Nat) : Bool := Nat.ble 1 w && (Nat.ble w 3 || (p == 0 && Nat.ble w 6) || (p == 2 && (w == 7 || w == 8)))
theorem al_b {p w : Nat} (h : al p w = true) : 1 ≤ w ∧ w ≤ 8 := by
  unfold al at h
  simp only [Bool.and_eq_true, Bool.or_eq_true, Nat.ble_eq, beq_iff_eq] at h
  omega
def cw (w : Nat) : Nat := if w = 1 then 1 else if w = 2 then 4 else if w = 3 then 11 else if w = 4 then 0 else if w = 5 then 2 else if w = 6 then 12 else if w = 7 then 13 else 14
def ctk (t : Tk) : Int32 := if t.1 = 0 then nI t.2 else if t.1 = 1 then -1 - nI (cw t.2) else if t.1 = 2 then cop t.2 else if t.1 = 3 then -48 else if t.1 = 4 then -45 else 1
def mtk (t : Tk) : Nat := if t.1 = 0 then 0 else if t.1 = 1 then t.2 else if t.1 = 2 then t.2 else if t.1 = 3 then 43 else if t.1 = 4 then 44 else 30
/-- the kinds on the stack (true: a test) ahead of a token and behind it -/
def ty1 (p : Nat) (t : Tk) (s s' : List Bool) : Prop :=
  (t.1 = 0 ∧ t.2 ≤ 9999 ∧ s.length < 100 ∧ s' = false :: s) ∨ (t.1 = 1 ∧ al p t.2 = true ∧ s.length < 100 ∧ s' = false :: s) ∨
  (t.1 = 2 ∧ 31 ≤ t.2 ∧ t.2 ≤ 42 ∧ ∃ r, s = decide (41 ≤ t.2) :: decide (41 ≤ t.2) :: r ∧ s' = decide (38 ≤ t.2) :: r) ∨
  (t.1 = 3 ∧ ∃ r, s = true :: r ∧ s' = true :: r) ∨ (t.1 = 4 ∧ ∃ r, s = false :: false :: true :: r ∧ s' = false :: r) ∨ (t.1 = 5 ∧ s.length < 100 ∧ s' = true :: s)
def tys (p : Nat) : List Tk → List Bool → List Bool → Prop
  | [], s, s' => s = s'
  | t :: r, s, s' => ∃ m, ty1 p t s m ∧ tys p r m s'
theorem tys_app {p : Nat} : ∀ {a b : List Tk} {s m s' : List Bool}, tys p a s m → tys p b m s' → tys p (a ++ b) s s'
  | [], _, _, _, _, h1, h2 => by
    have h1 : _ = _ := h1
    rw [h1]; exact h2
  | t :: a, b, _, _, _, ⟨m', h1, h3⟩, h2 => ⟨m', h1, tys_app h3 h2⟩
theorem ty1_len {p : Nat} {t : Tk} {s s' : List Bool} (h : ty1 p t s s') (hs : s.length ≤ 100) : s'.length ≤ 100 := by
  rcases h with ⟨-, -, h, rfl⟩ | ⟨-, -, h, rfl⟩ | ⟨-, -, -, r, rfl, rfl⟩ | ⟨-, r, rfl, rfl⟩ | ⟨-, r, rfl, rfl⟩ | ⟨-, h, rfl⟩ <;> simp only [List.length_cons] at * <;> omega
def ev1 (t : Tk) (e : Nat → Int) (s : List Int) : List Int :=
  match t.1, s with
  | 0, s => (t.2 : Int) :: s
  | 1, s => e t.2 :: s
  | 2, y :: x :: r => op2 t.2 x y :: r
  | 3, x :: r => (1 - x) :: r
  | 4, z :: y :: x :: r => (if x = 0 then z else y) :: r
  | 5, s => 1 :: s
  | _, s => s
def evs : List Tk → (Nat → Int) → List Int → List Int
  | [], _, s => s
  | t :: r, e, s => evs r e (ev1 t e s)
def hd0 (s : List Int) : Int := match s with | v :: _ => v | [] => 0
def val (p : List Tk) (e : Nat → Int) : Int := hd0 (evs p e [])
def VT : List Bool → List Int → Prop
  | [], [] => True
  | b :: s, v :: r => (GB v ∧ (b = true → T01 v)) ∧ VT s r
  | _, _ => False
theorem VT_len : ∀ {s : List Bool} {r : List Int}, VT s r → r.length = s.length
  | [], [], _ => rfl
  | _ :: _, _ :: _, h => congrArg Nat.succ (VT_len h.2)
  | [], _ :: _, h => h.elim
  | _ :: _, [], h => h.elim
theorem VT_c {b : Bool} {s : List Bool} : ∀ {r : List Int}, VT (b :: s) r → ∃ v r', r = v :: r' ∧ GB v ∧ (b = true → T01 v) ∧ VT s r'
  | [], h => h.elim
  | v :: r, h => ⟨v, r, rfl, h.1.1, h.1.2, h.2⟩
theorem T01_GB {a : Int} (h : T01 a) : GB a := by
  unfold GB
  rcases h with rfl | rfl <;> omega
theorem op2_T {o : Nat} {a b : Int} (ho : 38 ≤ o) (ho2 : o ≤ 42) (h : 41 ≤ o → T01 a ∧ T01 b) : T01 (op2 o a b) := by
  obtain rfl | rfl | rfl | rfl | rfl : o = 38 ∨ o = 39 ∨ o = 40 ∨ o = 41 ∨ o = 42 := by omega
  · show T01 (if b ≤ a then 0 else 1)
    split <;> simp [T01]
  · show T01 (if a ≤ b then 0 else 1)
    split <;> simp [T01]
  · show T01 (if a = b then 1 else 0)
    split <;> simp [T01]
  · show T01 (if b ≤ a then b else a)
    have := h (by decide)
    split
    · exact this.2
    · exact this.1
  · show T01 (if a ≤ b then b else a)
    have := h (by decide)
    split
    · exact this.2
    · exact this.1
theorem op2_G {o : Nat} {a b : Int} (ho : 31 ≤ o) (ho2 : o < 38) (ha : GB a) (hb : GB b) : GB (op2 o a b) := by
  obtain rfl | rfl | rfl | rfl | rfl | rfl | rfl : o = 31 ∨ o = 32 ∨ o = 33 ∨ o = 34 ∨ o = 35 ∨ o = 36 ∨ o = 37 := by omega
  · exact cl_b _
  · exact cl_b _
  · exact cl_b _
  · show GB (if b = 0 then 0 else cl (fl a b))
    split
    · exact ⟨by decide, by decide⟩
    · exact cl_b _
  · show GB (if b = 0 then 0 else cl (a - b * fl a b))
    split
    · exact ⟨by decide, by decide⟩
    · exact cl_b _
  · show GB (if b ≤ a then b else a)
    split
    · exact hb
    · exact ha
  · show GB (if a ≤ b then b else a)
    split
    · exact hb
    · exact ha
theorem vt_step {p : Nat} {t : Tk} {s s' : List Bool} {r : List Int} {e : Nat → Int} (h : ty1 p t s s') (hr : VT s r) (he : ∀ w, al p w = true → GB (e w)) : VT s' (ev1 t e r) := by
  obtain ⟨a, b⟩ := t
  rcases h with ⟨rfl, h1, h, rfl⟩ | ⟨rfl, h1, h, rfl⟩ | ⟨rfl, h1, h2, q, rfl, rfl⟩ | ⟨rfl, q, rfl, rfl⟩ | ⟨rfl, q, rfl, rfl⟩ | ⟨rfl, h, rfl⟩
  · refine ⟨⟨?_, fun z => by cases z⟩, hr⟩
    have h1 : b ≤ 9999 := h1
    show GB (b : Int)
    unfold GB
    omega
  · exact ⟨⟨he b h1, fun z => by cases z⟩, hr⟩
  · obtain ⟨y, r1, rfl, gy, ty, hr⟩ := VT_c hr
    obtain ⟨x, r2, rfl, gx, tx, hr⟩ := VT_c hr
    have h1 : 31 ≤ b := h1
    have h2 : b ≤ 42 := h2
    have tt : 41 ≤ b → T01 x ∧ T01 y := fun z => ⟨tx (decide_eq_true z), ty (decide_eq_true z)⟩
    refine ⟨⟨?_, fun z => ?_⟩, hr⟩
    · show GB (op2 b x y)
      rcases Nat.lt_or_ge b 38 with c | c
      · exact op2_G h1 c gx gy
      · exact T01_GB (op2_T c h2 tt)
    · exact op2_T (of_decide_eq_true z) h2 tt
  · obtain ⟨x, r1, rfl, gx, tx, hr⟩ := VT_c hr
    have : T01 (1 - x) := by
      rcases tx rfl with rfl | rfl
      · exact Or.inr (by omega)
      · exact Or.inl (by omega)
    exact ⟨⟨T01_GB this, fun _ => this⟩, hr⟩
  · obtain ⟨z, r1, rfl, gz, tz, hr⟩ := VT_c hr
    obtain ⟨y, r2, rfl, gy, ty, hr⟩ := VT_c hr
    obtain ⟨x, r3, rfl, gx, tx, hr⟩ := VT_c hr
    refine ⟨⟨?_, fun z => by cases z⟩, hr⟩
    show GB (if x = 0 then z else y)
    split
    · exact gz
    · exact gy
  · exact ⟨⟨⟨by decide, by decide⟩, fun _ => Or.inr rfl⟩, hr⟩
theorem vt_all {p : Nat} {e : Nat → Int} (he : ∀ w, al p w = true → GB (e w)) : ∀ {ts : List Tk} {s s' : List Bool} {r : List Int}, tys p ts s s' → VT s r → VT s' (evs ts e r)
  | [], _, _, _, h, hr => by
    have h : _ = _ := h
    rw [← h]; exact hr
  | t :: ts, _, _, _, ⟨m, h1, h2⟩, hr => vt_all (ts := ts) he h2 (vt_step h1 hr he)
theorem val_b {p : Nat} {e : Nat → Int} {ts : List Tk} {b : Bool} (he : ∀ w, al p w = true → GB (e w)) (h : tys p ts [] [b]) : GB (val ts e) ∧ (b = true → T01 (val ts e)) := by
  have h1 := vt_all he h (r := []) trivial
  obtain ⟨v, r, e1, g, t, -⟩ := VT_c h1
  unfold val
  rw [e1]
  exact ⟨g, t⟩
/-- the row of codes from a place on, in a cell of the class; in the reference -/
def CC (c : Nat) : Nat → List Tk → (Nat → Nat → Int32) → Prop
  | _, [], _ => True
  | k, t :: r, I => I c k = ctk t ∧ CC c (k + 1) r I
def MC : Nat → List Tk → (Nat → Nat → Int32) → Prop
  | _, [], _ => True
  | k, t :: r, I => (I 288 k = nI (mtk t) ∧ (t.1 = 0 → I 289 k = nI t.2)) ∧ MC (k + 1) r I
theorem CC_fr {c : Nat} {I I' : Nat → Nat → Int32} : ∀ {ts : List Tk} {k : Nat}, (∀ j, k ≤ j → j < k + ts.length → I' c j = I c j) → CC c k ts I → CC c k ts I'
  | [], _, _, _ => trivial
  | t :: ts, k, hf, h => ⟨(hf k (Nat.le_refl _) (by simp only [List.length_cons]; omega)).trans h.1, CC_fr (fun j h1 h2 => hf j (by omega) (by simp only [List.length_cons]; omega)) h.2⟩
theorem MC_fr {I I' : Nat → Nat → Int32} : ∀ {ts : List Tk} {k : Nat}, (∀ j, k ≤ j → j < k + ts.length → I' 288 j = I 288 j ∧ I' 289 j = I 289 j) → MC k ts I → MC k ts I'
  | [], _, _, _ => trivial
  | t :: ts, k, hf, h =>
    have q := hf k (Nat.le_refl _) (by simp only [List.length_cons]; omega)
    ⟨⟨q.1.trans h.1.1, fun z => q.2.trans (h.1.2 z)⟩, MC_fr (fun j h1 h2 => hf j (by omega) (by simp only [List.length_cons]; omega)) h.2⟩
/-- the stack of the class, of the reference -/
def SC : List Int → (Nat → Nat → Int32) → Prop
  | [], _ => True
  | v :: r, I => I 17 (3 + r.length) = iI v ∧ SC r I
def SM : List Int → (Nat → Nat → Int64) → Prop
  | [], _ => True
  | v :: r, J => J 309 r.length = iL v ∧ SM r J
theorem SC_u {I : Nat → Nat → Int32} {m : Nat} {x : Int32} : ∀ {r : List Int}, r.length ≤ m → SC r I → SC r (pj_u I 17 (3 + m) x)
  | [], _, _ => trivial
  | v :: r, hm, h => by
    simp only [List.length_cons] at hm
    exact ⟨(pj_u_j (by omega)).trans h.1, SC_u (by omega) h.2⟩
theorem SM_u {J : Nat → Nat → Int64} {m : Nat} {x : Int64} : ∀ {r : List Int}, r.length ≤ m → SM r J → SM r (pj_u J 309 m x)
  | [], _, _ => trivial
  | v :: r, hm, h => by
    simp only [List.length_cons] at hm
    exact ⟨(pj_u_j (by omega)).trans h.1, SM_u (by omega) h.2⟩
theorem cw_ok {w : Nat} (h1 : 1 ≤ w) (h2 : w ≤ 8) : ¬ (-1 - nI (cw w)) ≤ -30 ∧ -1 - nI (cw w) < 0 ∧ -1 - (-1 - nI (cw w)) = nI (cw w) ∧ cw w < 29 := by
  obtain rfl | rfl | rfl | rfl | rfl | rfl | rfl | rfl : w = 1 ∨ w = 2 ∨ w = 3 ∨ w = 4 ∨ w = 5 ∨ w = 6 ∨ w = 7 ∨ w = 8 := by omega
  all_goals decide
theorem cop_ok {o : Nat} (h1 : 31 ≤ o) (h2 : o ≤ 42) : cop o ≤ -30 ∧ ¬ cop o = -48 ∧ ¬ cop o = -45 := by
  obtain rfl | rfl | rfl | rfl | rfl | rfl | rfl | rfl | rfl | rfl | rfl | rfl : o = 31 ∨ o = 32 ∨ o = 33 ∨ o = 34 ∨ o = 35 ∨ o = 36 ∨ o = 37 ∨ o = 38 ∨ o = 39 ∨ o = 40 ∨ o = 41 ∨ o = 42 := by omega
  all_goals decide
theorem pk_m2 (n : Nat) : nI (n + 2) + (-2) = nI n := by
  have : iI ((n + 2 : Nat) : Int) + iI (-2) = iI (n : Int) := by
    rw [iI_add]
    congr 1
    omega
  exact this
