/-! a year, on layers -/
def upd1 {α : Type} (f : Nat → α) (m : Nat) (x : α) : Nat → α := fun k => if k = m then x else f k
theorem upd1_e {α : Type} {f : Nat → α} {m : Nat} {x : α} : upd1 f m x m = x := if_pos rfl
theorem upd1_n {α : Type} {f : Nat → α} {m k : Nat} {x : α} (h : k ≠ m) : upd1 f m x k = f k := if_neg h
def gro (W : Wk) (L : Ly) (m : Nat) : Ly := match L.the m with
  | true => (L.yr, L.lin, L.bur, upd1 L.siz m (gz W (L.siz m) (L.age m) L.yr), upd1 L.age m (if L.age m + 1 < 99 then L.age m + 1 else 99), L.wor, L.pur, L.the)
  | false => L
def groN (W : Wk) (L : Ly) : Nat → Ly
  | 0 => L
  | k + 1 => gro W (groN W L k) k
def Ly.lea (L : Ly) (m : Nat) : Ly := (L.yr, L.lin, L.bur, L.siz, L.age, upd1 L.wor m none, L.pur, upd1 L.the m false)
def lea (W : Wk) (p : Ly × Nat) (m : Nat) : Ly × Nat := match p.1.the m && lvm W p.1 m with
  | true => (p.1.lea m, p.2 + 1)
  | false => p
def leaN (W : Wk) (L : Ly) : Nat → Ly × Nat
  | 0 => (L, 0)
  | k + 1 => lea W (leaN W L k) k
/-- on its peg -/
def peg (W : Wk) (L : Ly) (c : Nat) : Bool := !L.bur c && (wr W L c).isNone
/-- the warmest of those on their pegs, of the first so many -/
def bsN (W : Wk) (L : Ly) (s a : Nat) : Nat → Option Nat × Int
  | 0 => (none, 0)
  | c + 1 => match peg W L c && decide ((bsN W L s a c).2 < wm W s a L.yr c (L.lin c)) with
    | true => (some c, wm W s a L.yr c (L.lin c))
    | false => bsN W L s a c
def bst (W : Wk) (L : Ly) (s a : Nat) : Option Nat := (bsN W L s a W.nc).1
def drs (W : Wk) (w : Option Nat) (p : Ly × Nat) (m : Nat) : Ly × Nat := match p.1.the m && (p.1.wor m).isNone && !decide (w = some m) with
  | true => (match bst W p.1 (p.1.siz m) (p.1.age m) with
    | none => p
    | some c => (p.1.dress m (some c), p.2 + 1))
  | false => p
def drsN (W : Wk) (w : Option Nat) (L : Ly) : Nat → Ly × Nat
  | 0 => (L, 0)
  | k + 1 => drs W w (drsN W w L k) k
def pay (W : Wk) (L : Ly) (m : Nat) : Ly := match L.wor m with
  | none => L
  | some c => (L.yr, L.lin, L.bur, L.siz, L.age, L.wor, upd1 L.pur m (if L.pur m + W.cpy c < 9999 then L.pur m + W.cpy c else 9999), L.the)
def payN (W : Wk) (L : Ly) : Nat → Ly
  | 0 => L
  | k + 1 => pay W (payN W L k) k
def Ly.nxt (L : Ly) : Ly := (L.yr + 1, L.lin, L.bur, L.siz, L.age, L.wor, L.pur, L.the)
def y1 (W : Wk) (L : Ly) : Ly := groN W L W.nm
def y2 (W : Wk) (L : Ly) : Ly × Nat := leaN W (y1 W L) W.nm
def y3 (W : Wk) (w : Option Nat) (L : Ly) : Ly × Nat := drsN W w (y2 W L).1 W.nm
def y4 (W : Wk) (w : Option Nat) (L : Ly) : Ly := payN W (y3 W w L).1 W.nm
/-- a year: the layer, how many were put on, how many went -/
def yea (W : Wk) (w : Option Nat) (L : Ly) : Ly := (y4 W w L).nxt
theorem gz_b {W : Wk} {s a y : Nat} (h1 : 1 ≤ s) (h2 : s ≤ 99) : 1 ≤ gz W s a y ∧ gz W s a y ≤ 99 := by
  unfold gz
  cases W.pr 1 with
  | none => exact ⟨h1, h2⟩
  | some ts =>
    simp only
    generalize val ts (en s a y 0 0 0 0 0) = v
    by_cases c : v < 99
    · rw [if_pos c]
      split <;> omega
    · rw [if_neg c]
      decide
/-- but for the year -/
def LU (W : Wk) (L : Ly) : Prop := (∀ k, k < W.nc → L.lin k ≤ 99) ∧ (∀ k, k < W.nm → 1 ≤ L.siz k ∧ L.siz k ≤ 99 ∧ L.age k ≤ 99 ∧ L.pur k ≤ 9999) ∧ (∀ k c, k < W.nm → L.wor k = some c → c < W.nc ∧ L.bur c = false ∧ L.the k = true) ∧ ∀ j k c, j < W.nm → k < W.nm → L.wor j = some c → L.wor k = some c → j = k
theorem gro_LV {W : Wk} {L : Ly} {m : Nat} (h : LV W L) : LV W (gro W L m) ∧ (gro W L m).yr = L.yr := by
  unfold gro
  cases e : L.the m with
  | false => exact ⟨h, rfl⟩
  | true =>
    obtain ⟨h0, h1, h2, h3, h4⟩ := h
    refine ⟨⟨h0, h1, fun k hk => ?_, h3, h4⟩, rfl⟩
    have q := h2 k hk
    show 1 ≤ upd1 L.siz m _ k ∧ upd1 L.siz m _ k ≤ 99 ∧ upd1 L.age m _ k ≤ 99 ∧ L.pur k ≤ 9999
    by_cases c : k = m
    · subst c
      rw [upd1_e, upd1_e]
      have g := gz_b (W := W) (a := L.age k) (y := L.yr) q.1 q.2.1
      refine ⟨g.1, g.2, ?_, q.2.2.2⟩
      split <;> omega
    · rw [upd1_n c, upd1_n c]
      exact q
theorem groN_LV {W : Wk} {L : Ly} (h : LV W L) : ∀ k, LV W (groN W L k) ∧ (groN W L k).yr = L.yr
  | 0 => ⟨h, rfl⟩
  | k + 1 => by
    have ih := groN_LV h k
    have g := gro_LV (m := k) ih.1
    exact ⟨g.1, g.2.trans ih.2⟩
theorem lea_LV {W : Wk} {p : Ly × Nat} {m : Nat} (h : LV W p.1) : LV W (lea W p m).1 ∧ (lea W p m).1.yr = p.1.yr ∧ (lea W p m).2 ≤ p.2 + 1 := by
  unfold lea
  cases e : (p.1.the m && lvm W p.1 m) with
  | false => exact ⟨h, rfl, by simp only; omega⟩
  | true =>
    obtain ⟨h0, h1, h2, h3, h4⟩ := h
    refine ⟨⟨h0, h1, h2, fun k c hk hc => ?_, fun j k c hj hk h5 h6 => ?_⟩, rfl, by simp only; omega⟩
    · have hc : upd1 p.1.wor m none k = some c := hc
      show c < W.nc ∧ p.1.bur c = false ∧ upd1 p.1.the m false k = true
      by_cases d : k = m
      · subst d
        rw [upd1_e] at hc
        cases hc
      · rw [upd1_n d] at hc ⊢
        exact h3 k c hk hc
    · have h5 : upd1 p.1.wor m none j = some c := h5
      have h6 : upd1 p.1.wor m none k = some c := h6
      by_cases d : j = m
      · subst d
        rw [upd1_e] at h5
        cases h5
      · by_cases d2 : k = m
        · subst d2
          rw [upd1_e] at h6
          cases h6
        · rw [upd1_n d] at h5
          rw [upd1_n d2] at h6
          exact h4 j k c hj hk h5 h6
theorem leaN_LV {W : Wk} {L : Ly} (h : LV W L) : ∀ k, LV W (leaN W L k).1 ∧ (leaN W L k).1.yr = L.yr ∧ (leaN W L k).2 ≤ k
  | 0 => ⟨h, rfl, Nat.le_refl _⟩
  | k + 1 => by
    have ih := leaN_LV h k
    have g := lea_LV (m := k) ih.1
    exact ⟨g.1, g.2.1.trans ih.2.1, by have := g.2.2; have := ih.2.2; show (lea W (leaN W L k) k).2 ≤ k + 1; omega⟩
theorem bsN_p {W : Wk} {L : Ly} {s a c : Nat} : ∀ {k : Nat}, (bsN W L s a k).1 = some c → c < k ∧ peg W L c = true
  | 0, h => by cases h
  | k + 1, h => by
    unfold bsN at h
    cases e : (peg W L k && decide ((bsN W L s a k).2 < wm W s a L.yr k (L.lin k))) with
    | true =>
      rw [e] at h
      cases h
      rw [Bool.and_eq_true] at e
      exact ⟨by omega, e.1⟩
    | false =>
      rw [e] at h
      have := bsN_p (k := k) h
      exact ⟨by omega, this.2⟩
theorem bst_p {W : Wk} {L : Ly} {s a c : Nat} (h : bst W L s a = some c) : c < W.nc ∧ peg W L c = true := bsN_p h
theorem peg_p {W : Wk} {L : Ly} {c : Nat} (h : peg W L c = true) : L.bur c = false ∧ ∀ k, k < W.nm → L.wor k ≠ some c := by
  unfold peg at h
  rw [Bool.and_eq_true, Bool.not_eq_true'] at h
  refine ⟨h.1, fun k hk e => ?_⟩
  cases e2 : wr W L c with
  | some j => rw [e2] at h; cases h.2
  | none =>
    unfold wr at e2
    have := ff_none e2 k (by omega) (by omega)
    rw [decide_eq_true e] at this
    cases this
theorem dress_LV {W : Wk} {L : Ly} {m c : Nat} (h : LV W L) (hc : c < W.nc) (hp : peg W L c = true) (ht : L.the m = true) : LV W (L.dress m (some c)) := by
  obtain ⟨h0, h1, h2, h3, h4⟩ := h
  obtain ⟨p1, p2⟩ := peg_p hp
  refine ⟨h0, fun k hk => ?_, h2, fun k d hk hd => ?_, fun j k d hj hk h5 h6 => ?_⟩
  · rw [dress_lin]
    have := h1 k hk
    repeat' split
    all_goals omega
  · rw [dress_wor] at hd
    show d < W.nc ∧ L.bur d = false ∧ L.the k = true
    by_cases z : k = m
    · rw [if_pos z] at hd
      cases hd
      exact ⟨hc, p1, by rw [z]; exact ht⟩
    · rw [if_neg z] at hd
      exact h3 k d hk hd
  · rw [dress_wor] at h5 h6
    by_cases z : j = m
    · by_cases z2 : k = m
      · rw [z, z2]
      · rw [if_pos z] at h5
        rw [if_neg z2] at h6
        cases h5
        exact absurd h6 (p2 k hk)
    · by_cases z2 : k = m
      · rw [if_neg z] at h5
        rw [if_pos z2] at h6
        cases h6
        exact absurd h5 (p2 j hj)
      · rw [if_neg z] at h5
        rw [if_neg z2] at h6
        exact h4 j k d hj hk h5 h6
theorem drs_LV {W : Wk} {w : Option Nat} {p : Ly × Nat} {m : Nat} (h : LV W p.1) : LV W (drs W w p m).1 ∧ (drs W w p m).1.yr = p.1.yr ∧ (drs W w p m).2 ≤ p.2 + 1 := by
  unfold drs
  cases e : (p.1.the m && (p.1.wor m).isNone && !decide (w = some m)) with
  | false => exact ⟨h, rfl, by simp only; omega⟩
  | true =>
    simp only
    cases e2 : bst W p.1 (p.1.siz m) (p.1.age m) with
    | none => exact ⟨h, rfl, by simp only; omega⟩
    | some c =>
      rw [Bool.and_eq_true, Bool.and_eq_true] at e
      have b := bst_p e2
      exact ⟨dress_LV h b.1 b.2 e.1.1, rfl, by simp only; omega⟩
theorem drsN_LV {W : Wk} {w : Option Nat} {L : Ly} (h : LV W L) : ∀ k, LV W (drsN W w L k).1 ∧ (drsN W w L k).1.yr = L.yr ∧ (drsN W w L k).2 ≤ k
  | 0 => ⟨h, rfl, Nat.le_refl _⟩
  | k + 1 => by
    have ih := drsN_LV (w := w) h k
    have g := drs_LV (w := w) (m := k) ih.1
    exact ⟨g.1, g.2.1.trans ih.2.1, by have := g.2.2; have := ih.2.2; show (drs W w (drsN W w L k) k).2 ≤ k + 1; omega⟩
theorem pay_LV {W : Wk} {L : Ly} {m : Nat} (h : LV W L) : LV W (pay W L m) ∧ (pay W L m).yr = L.yr := by
  unfold pay
  cases e : L.wor m with
  | none => exact ⟨h, rfl⟩
  | some c =>
    obtain ⟨h0, h1, h2, h3, h4⟩ := h
    refine ⟨⟨h0, h1, fun k hk => ?_, h3, h4⟩, rfl⟩
    have q := h2 k hk
    show 1 ≤ L.siz k ∧ L.siz k ≤ 99 ∧ L.age k ≤ 99 ∧ upd1 L.pur m _ k ≤ 9999
    by_cases d : k = m
    · subst d
      rw [upd1_e]
      refine ⟨q.1, q.2.1, q.2.2.1, ?_⟩
      split <;> omega
    · rw [upd1_n d]
      exact q
theorem payN_LV {W : Wk} {L : Ly} (h : LV W L) : ∀ k, LV W (payN W L k) ∧ (payN W L k).yr = L.yr
  | 0 => ⟨h, rfl⟩
  | k + 1 => by
    have ih := payN_LV h k
    have g := pay_LV (m := k) ih.1
    exact ⟨g.1, g.2.trans ih.2⟩
theorem yea_LV {W : Wk} {w : Option Nat} {L : Ly} (h : LV W L) : LV W (y1 W L) ∧ LV W (y2 W L).1 ∧ LV W (y3 W w L).1 ∧ LV W (y4 W w L) ∧ (y4 W w L).yr = L.yr ∧ (y2 W L).2 ≤ W.nm ∧ (y3 W w L).2 ≤ W.nm := by
  have a := groN_LV h W.nm
  have b := leaN_LV a.1 W.nm
  have c := drsN_LV (w := w) b.1 W.nm
  have d := payN_LV c.1 W.nm
  exact ⟨a.1, b.1, c.1, d.1, d.2.trans (c.2.1.trans (b.2.1.trans a.2)), b.2.2, c.2.2⟩
theorem nxt_LV {W : Wk} {L : Ly} (h : LV W L) (hy : L.yr < 999) : LV W L.nxt := ⟨hy, h.2.1, h.2.2.1, h.2.2.2.1, h.2.2.2.2⟩
theorem yea_V {W : Wk} {w : Option Nat} {L : Ly} (h : LV W L) (hy : L.yr < 999) : LV W (yea W w L) ∧ (yea W w L).yr = L.yr + 1 := by
  have q := yea_LV (w := w) h
  exact ⟨nxt_LV q.2.2.2.1 (by rw [q.2.2.2.2.1]; exact hy), congrArg Nat.succ q.2.2.2.2.1⟩
