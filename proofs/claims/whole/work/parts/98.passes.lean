/-! passes: on layers -/
def wmo (W : Wk) (L : Ly) (m : Nat) (o : Option Nat) : Int := match o with
  | none => 0
  | some c => wml W L m c
def wel (W : Wk) (L : Ly) (i j : Nat) : Bool := L.the i && L.the j && !((L.wor i).isNone && (L.wor j).isNone) && decide (wmo W L i (L.wor i) ≤ wmo W (L.chg i j) i (L.wor j)) && decide (wmo W L j (L.wor j) ≤ wmo W (L.chg i j) j (L.wor i))
/-- pairs of men, in their order -/
def off (nm : Nat) : Nat → Nat
  | 0 => 0
  | a + 1 => off nm a + (nm - (a + 1))
def pcd (nm t : Nat) : Nat := (fun a => 8 * a + (t - off nm a + a + 1)) ((ff (fun a => decide (t < off nm (a + 1))) nm 0).getD 0)
theorem off_mono {nm a b : Nat} (h : a ≤ b) : off nm a ≤ off nm b := by
  induction b with
  | zero =>
    obtain rfl : a = 0 := by omega
    exact Nat.le_refl _
  | succ b ih =>
    rcases Nat.lt_or_ge a (b + 1) with z | z
    · have := ih (by omega)
      show off nm a ≤ off nm b + _
      omega
    · obtain rfl : a = b + 1 := by omega
      exact Nat.le_refl _
theorem pcd_e {nm a b : Nat} (h1 : a < b) (h2 : b < nm) : pcd nm (off nm a + (b - a - 1)) = 8 * a + b := by
  have e : ff (fun x => decide (off nm a + (b - a - 1) < off nm (x + 1))) nm 0 = some a := by
    have key : ∀ r k, r + k = nm → k ≤ a → ff (fun x => decide (off nm a + (b - a - 1) < off nm (x + 1))) r k = some a := by
      intro r
      induction r with
      | zero => intro k hk hka; omega
      | succ r ih =>
        intro k hk hka
        unfold ff
        rcases Nat.lt_or_ge k a with z | z
        · have := off_mono (nm := nm) (a := k + 1) (b := a) (by omega)
          rw [decide_eq_false (by omega)]
          exact ih (k + 1) (by omega) (by omega)
        · obtain rfl : k = a := by omega
          have : off nm (k + 1) = off nm k + (nm - (k + 1)) := rfl
          rw [decide_eq_true (by omega)]
    exact key nm 0 (by omega) (Nat.zero_le _)
  unfold pcd
  rw [e]
  show 8 * a + (off nm a + (b - a - 1) - off nm a + a + 1) = 8 * a + b
  omega
theorem off_b {nm : Nat} (h : nm ≤ 7) : off nm nm ≤ 21 := by
  obtain rfl | rfl | rfl | rfl | rfl | rfl | rfl | rfl : nm = 0 ∨ nm = 1 ∨ nm = 2 ∨ nm = 3 ∨ nm = 4 ∨ nm = 5 ∨ nm = 6 ∨ nm = 7 := by omega
  all_goals decide
/-- every place is one of a pair -/
theorem off_p {nm t : Nat} (h : t < off nm nm) : ∃ a b, a < b ∧ b < nm ∧ t = off nm a + (b - a - 1) := by
  have key : ∀ a, a ≤ nm → t < off nm a → ∃ x b, x < b ∧ b < nm ∧ t = off nm x + (b - x - 1) := by
    intro a
    induction a with
    | zero => intro _ h; exact absurd h (Nat.not_lt_zero _)
    | succ a ih =>
      intro ha h
      rcases Nat.lt_or_ge t (off nm a) with z | z
      · exact ih (by omega) z
      · have h : t < off nm a + (nm - (a + 1)) := h
        exact ⟨a, a + 1 + (t - off nm a), by omega, by omega, by omega⟩
  exact key nm (Nat.le_refl _) h
def firstT {α : Type} (f : Nat → Option α) : Nat → Nat → Option α
  | 0, _ => none
  | r + 1, t => match f t with
    | some x => some x
    | none => firstT f r (t + 1)
theorem firstT_cong {α : Type} {f g : Nat → Option α} : ∀ {r t : Nat}, (∀ j, t ≤ j → j < t + r → f j = g j) → firstT f r t = firstT g r t
  | 0, _, _ => rfl
  | r + 1, t, h => by
    unfold firstT
    rw [h t (Nat.le_refl _) (by omega), firstT_cong (r := r) (fun j h1 h2 => h j (by omega) (by omega))]
theorem firstT_add {α : Type} {f : Nat → Option α} : ∀ {r s t : Nat}, firstT f (r + s) t = match firstT f r t with | some x => some x | none => firstT f s (t + r)
  | 0, s, t => by
    show firstT f (0 + s) t = firstT f s (t + 0)
    rw [Nat.zero_add, Nat.add_zero]
  | r + 1, s, t => by
    rw [show r + 1 + s = r + s + 1 by omega]
    show (match f t with | some x => some x | none => firstT f (r + s) (t + 1)) = match (match f t with | some x => some x | none => firstT f r (t + 1)) with | some x => some x | none => firstT f s (t + (r + 1))
    cases f t with
    | some x => rfl
    | none =>
      simp only
      rw [firstT_add (r := r), show t + 1 + r = t + (r + 1) by omega]
theorem firstT_sh {α : Type} {f g : Nat → Option α} {d : Nat} : ∀ {r t : Nat}, (∀ j, t ≤ j → j < t + r → f (d + j) = g j) → firstT f r (d + t) = firstT g r t
  | 0, _, _ => rfl
  | r + 1, t, h => by
    unfold firstT
    rw [h t (Nat.le_refl _) (by omega), show d + t + 1 = d + (t + 1) by omega, firstT_sh (r := r) (fun j h1 h2 => h j (by omega) (by omega))]
/-- a search in blocks -/
theorem firstT_mul {α : Type} {f : Nat → Option α} {M : Nat} : ∀ {r t : Nat}, firstT f (r * M) (t * M) = firstT (fun t => firstT f M (t * M)) r t
  | 0, t => by rw [Nat.zero_mul]; rfl
  | r + 1, t => by
    have ih := firstT_mul (f := f) (M := M) (r := r) (t := t + 1)
    rw [Nat.succ_mul] at ih
    rw [Nat.succ_mul, Nat.add_comm, firstT_add, ih]
    rfl
/-- the first row of so many changes that brings the coat -/
def seqF (W : Wk) (m c : Nat) : Nat → Ly → Option (List Nat)
  | 0, L => if L.wor m = some c then some [] else none
  | k + 1, L => firstT (fun t => match wel W L (pcd W.nm t / 8) (pcd W.nm t % 8) with
    | true => (seqF W m c k (L.chg (pcd W.nm t / 8) (pcd W.nm t % 8))).map (fun r => pcd W.nm t :: r)
    | false => none) (off W.nm W.nm) 0
/-- the row of a way, if it brings the coat -/
def okW (W : Wk) (m c : Nat) : Nat → Ly → Nat → Option (List Nat)
  | 0, L, _ => if L.wor m = some c then some [] else none
  | k + 1, L, w => match wel W L (pcd W.nm (w / off W.nm W.nm ^ k) / 8) (pcd W.nm (w / off W.nm W.nm ^ k) % 8) with
    | true => (okW W m c k (L.chg (pcd W.nm (w / off W.nm W.nm ^ k) / 8) (pcd W.nm (w / off W.nm W.nm ^ k) % 8)) (w % off W.nm W.nm ^ k)).map (fun r => pcd W.nm (w / off W.nm W.nm ^ k) :: r)
    | false => none
theorem firstT_none {α β : Type} {r t : Nat} : firstT (fun _ => (none : Option α)) r t = (none : Option α) := by
  induction r generalizing t with
  | zero => rfl
  | succ r ih => exact ih
theorem firstT_map {α β : Type} {f : Nat → Option α} {g : α → β} : ∀ {r t : Nat}, firstT (fun j => (f j).map g) r t = (firstT f r t).map g
  | 0, _ => rfl
  | r + 1, t => by
    unfold firstT
    rw [firstT_map (r := r)]
    cases f t <;> rfl
theorem okW_f {W : Wk} {m c : Nat} : ∀ {k : Nat} {L : Ly}, firstT (okW W m c k L) (off W.nm W.nm ^ k) 0 = seqF W m c k L
  | 0, L => by
    show firstT (okW W m c 0 L) 1 0 = if L.wor m = some c then some [] else none
    have e : okW W m c 0 L 0 = if L.wor m = some c then some [] else none := rfl
    unfold firstT
    rw [e]
    by_cases z : L.wor m = some c
    · rw [if_pos z]
    · rw [if_neg z]; rfl
  | k + 1, L => by
    rcases Nat.eq_zero_or_pos (off W.nm W.nm) with z | z
    · rw [Nat.pow_succ, z, Nat.mul_zero]
      show none = firstT _ (off W.nm W.nm) 0
      rw [z]
      rfl
    · have hp : 0 < off W.nm W.nm ^ k := Nat.pow_pos z
      have e := firstT_mul (f := okW W m c (k + 1) L) (M := off W.nm W.nm ^ k) (r := off W.nm W.nm) (t := 0)
      rw [Nat.zero_mul] at e
      rw [Nat.pow_succ, Nat.mul_comm, e]
      show firstT _ (off W.nm W.nm) 0 = firstT _ (off W.nm W.nm) 0
      refine firstT_cong (fun t _ ht => ?_)
      have e2 : ∀ j, j < off W.nm W.nm ^ k → okW W m c (k + 1) L (t * off W.nm W.nm ^ k + j) = match wel W L (pcd W.nm t / 8) (pcd W.nm t % 8) with
        | true => (okW W m c k (L.chg (pcd W.nm t / 8) (pcd W.nm t % 8)) j).map (fun r => pcd W.nm t :: r)
        | false => none := by
        intro j hj
        have d1 : (t * off W.nm W.nm ^ k + j) / off W.nm W.nm ^ k = t := by
          rw [Nat.add_comm, Nat.add_mul_div_right _ _ hp, Nat.div_eq_of_lt hj, Nat.zero_add]
        have d2 : (t * off W.nm W.nm ^ k + j) % off W.nm W.nm ^ k = j := by
          rw [Nat.add_comm, Nat.add_mul_mod_self_right, Nat.mod_eq_of_lt hj]
        show (match wel W L _ _ with | true => _ | false => none) = _
        rw [d1, d2]
      have e3 : firstT (okW W m c (k + 1) L) (off W.nm W.nm ^ k) (t * off W.nm W.nm ^ k) = _ := firstT_sh (f := okW W m c (k + 1) L) (d := t * off W.nm W.nm ^ k) (r := off W.nm W.nm ^ k) (t := 0) (fun j _ hj => e2 j (by omega))
      rw [e3]
      cases ew : wel W L (pcd W.nm t / 8) (pcd W.nm t % 8) with
      | false => exact firstT_none (β := Nat)
      | true =>
        simp only
        rw [firstT_map, okW_f (k := k)]
/-- what is told -/
def psF (W : Wk) (m c : Nat) (L : Ly) : Nat → Nat → Option (List Nat)
  | 0, _ => none
  | r + 1, k => match seqF W m c k L with
    | some x => some x
    | none => psF W m c L r (k + 1)
def passesV (A : Ab) (p r s : Int32) : Int32 := match tix A.W A.L p with
  | none => -1
  | some m => match ix A.W.nc r with
    | none => -1
    | some c => match psF A.W m c A.L 4 0 with
      | none => -1
      | some x => if s = -1 then nI x.length else match ix x.length s with
        | none => -1
        | some k => nI (x.getD k 0)
theorem seqF_len {W : Wk} {m c : Nat} : ∀ {k : Nat} {L : Ly} {x : List Nat}, seqF W m c k L = some x → x.length = k
  | 0, L, x, h => by
    unfold seqF at h
    split at h
    · cases h; rfl
    · cases h
  | k + 1, L, x, h => by
    have key : ∀ r t, firstT (fun t => match wel W L (pcd W.nm t / 8) (pcd W.nm t % 8) with
      | true => (seqF W m c k (L.chg (pcd W.nm t / 8) (pcd W.nm t % 8))).map (fun r => pcd W.nm t :: r)
      | false => none) r t = some x → x.length = k + 1 := by
      intro r
      induction r with
      | zero => intro t h; cases h
      | succ r ih =>
        intro t h
        unfold firstT at h
        cases ew : wel W L (pcd W.nm t / 8) (pcd W.nm t % 8) with
        | false => rw [ew] at h; exact ih (t + 1) h
        | true =>
          rw [ew] at h
          simp only at h
          cases es : seqF W m c k (L.chg (pcd W.nm t / 8) (pcd W.nm t % 8)) with
          | none => rw [es] at h; exact ih (t + 1) h
          | some y =>
            rw [es] at h
            have h : some (pcd W.nm t :: y) = some x := h
            cases h
            show y.length + 1 = k + 1
            rw [seqF_len es]
    exact key _ _ h
