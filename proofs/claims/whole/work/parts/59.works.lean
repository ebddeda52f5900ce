/-! the works in class and reference, its programs -/
def nmC (l : List Nat) : Int32 := nI (l.foldl (fun x y => 32 * x + y) 0 * 32 ^ (6 - l.length))
def nmM (l : List Nat) : Int64 := lN (l.foldl (fun x y => 256 * x + (96 + y)) 0)
def PC (W : Wk) (w : Nat) (I : Nat → Nat → Int32) : Prop := ∀ p, p < 3 → match W.pr p with
  | none => I (w + 9) p = 0 ∧ I (w + 10) p = 0
  | some ts => ∃ f, I (w + 9) p = nI f ∧ I (w + 10) p = nI (f + ts.length) ∧ f + ts.length ≤ 1600 ∧ CC (w + 8) f ts I
def PM (W : Wk) (B : Nat) (I : Nat → Nat → Int32) : Prop := ∀ p, p < 3 → match W.pr p with
  | none => I 286 (3 * B + p) = -1
  | some ts => ∃ f, I 286 (3 * B + p) = nI f ∧ I 287 (3 * B + p) = nI (f + ts.length) ∧ f + ts.length ≤ 1600 ∧ MC (1600 * B + f) ts I
def nmV (l : List Nat) : Prop := 1 ≤ l.length ∧ l.length ≤ 6 ∧ ∀ x, x ∈ l → 1 ≤ x ∧ x ≤ 26
/-- what holds of every works -/
def WV (W : Wk) : Prop := (∀ p ts, p < 3 → W.pr p = some ts → ts ≠ [] ∧ tys p ts [] [decide (p = 2)]) ∧ W.fire ≤ 100 ∧ (∀ k, k < W.nc → 1 ≤ W.csz k ∧ W.csz k ≤ 99 ∧ W.cpy k ≤ 99 ∧ nmV (W.cnm k)) ∧ (∀ k, k < W.nm → 1 ≤ W.msz k ∧ W.msz k ≤ 99 ∧ W.mag k ≤ 99 ∧ nmV (W.mnm k)) ∧ (∀ k c, k < W.nm → W.mco k = some c → c < W.nc) ∧ ∀ j k c, j < W.nm → k < W.nm → W.mco j = some c → W.mco k = some c → j = k
def CW (W : Wk) (w : Nat) (I : Nat → Nat → Int32) : Prop := WC W w I ∧ PC W w I ∧ I w 15 = nI W.fire ∧ (∀ k, k < W.nc → I (w + 1) k = nmC (W.cnm k)) ∧ ∀ k, k < W.nm → I (w + 4) k = nmC (W.mnm k) ∧ I (w + 5) k = nI (W.msz k) ∧ I (w + 6) k = nI (W.mag k) ∧ I (w + 7) k = wo (W.mco k)
def MW (W : Wk) (B : Nat) (I : Nat → Nat → Int32) (J : Nat → Nat → Int64) : Prop := WM W B I ∧ PM W B I ∧ I 285 B = nI W.fire ∧ (∀ k, k < W.nc → J 290 (8 * B + k) = nmM (W.cnm k)) ∧ ∀ k, k < W.nm → J 291 (7 * B + k) = nmM (W.mnm k) ∧ I 282 (7 * B + k) = nI (W.msz k) ∧ I 283 (7 * B + k) = nI (W.mag k) ∧ I 284 (7 * B + k) = wo (W.mco k)
theorem PC_fr {W : Wk} {w : Nat} {I I' : Nat → Nat → Int32} (hf : ∀ c j, w + 8 ≤ c → c ≤ w + 10 → I' c j = I c j) (h : PC W w I) : PC W w I' := by
  intro p hp
  have h := h p hp
  cases e : W.pr p with
  | none =>
    rw [e] at h
    exact ⟨(hf _ _ (by omega) (by omega)).trans h.1, (hf _ _ (by omega) (by omega)).trans h.2⟩
  | some ts =>
    rw [e] at h
    obtain ⟨f, h1, h2, h3, h4⟩ := h
    exact ⟨f, (hf _ _ (by omega) (by omega)).trans h1, (hf _ _ (by omega) (by omega)).trans h2, h3, CC_fr (fun j _ _ => hf _ _ (by omega) (by omega)) h4⟩
theorem PM_fr {W : Wk} {B : Nat} {I I' : Nat → Nat → Int32} (hf : ∀ c j, 286 ≤ c → c ≤ 289 → I' c j = I c j) (h : PM W B I) : PM W B I' := by
  intro p hp
  have h := h p hp
  cases e : W.pr p with
  | none =>
    rw [e] at h
    exact (hf _ _ (by omega) (by omega)).trans h
  | some ts =>
    rw [e] at h
    obtain ⟨f, h1, h2, h3, h4⟩ := h
    exact ⟨f, (hf _ _ (by omega) (by omega)).trans h1, (hf _ _ (by omega) (by omega)).trans h2, h3, MC_fr (fun j _ _ => ⟨hf _ _ (by omega) (by omega), hf _ _ (by omega) (by omega)⟩) h4⟩
theorem CW_fr {W : Wk} {w : Nat} {I I' : Nat → Nat → Int32} (hf : ∀ c j, w ≤ c → c ≤ w + 10 → I' c j = I c j) (h : CW W w I) : CW W w I' := by
  obtain ⟨⟨a1, a2, a3, a4, a5⟩, b, c, d, e⟩ := h
  have g : ∀ i j, i ≤ 10 → I' (w + i) j = I (w + i) j := fun i j hi => hf _ _ (by omega) (by omega)
  exact ⟨⟨a1, a2, (g 0 _ (by decide)).trans a3, (g 0 _ (by decide)).trans a4, fun k hk => ⟨(g 2 _ (by decide)).trans (a5 k hk).1, (g 3 _ (by decide)).trans (a5 k hk).2⟩⟩, PC_fr (fun c j h1 h2 => hf c j (by omega) h2) b, (g 0 _ (by decide)).trans c, fun k hk => (g 1 _ (by decide)).trans (d k hk), fun k hk => ⟨(g 4 _ (by decide)).trans (e k hk).1, (g 5 _ (by decide)).trans (e k hk).2.1, (g 6 _ (by decide)).trans (e k hk).2.2.1, (g 7 _ (by decide)).trans (e k hk).2.2.2⟩⟩
theorem MW_fr {W : Wk} {B : Nat} {I I' : Nat → Nat → Int32} {J J' : Nat → Nat → Int64} (hf : ∀ c j, 278 ≤ c → c ≤ 289 → I' c j = I c j) (hj : ∀ c j, 290 ≤ c → c ≤ 291 → J' c j = J c j) (h : MW W B I J) : MW W B I' J' := by
  obtain ⟨⟨a1, a2, a0, a3, a4, a5⟩, b, c, d, e⟩ := h
  have g : ∀ i j, i ≤ 11 → I' (278 + i) j = I (278 + i) j := fun i j hi => hf _ _ (by omega) (by omega)
  exact ⟨⟨a1, a2, a0, (g 0 _ (by decide)).trans a3, (g 3 _ (by decide)).trans a4, fun k hk => ⟨(g 1 _ (by decide)).trans (a5 k hk).1, (g 2 _ (by decide)).trans (a5 k hk).2⟩⟩, PM_fr (fun c j h1 h2 => hf c j (by omega) h2) b, (g 7 _ (by decide)).trans c, fun k hk => (hj 290 _ (by decide) (by decide)).trans (d k hk), fun k hk => ⟨(hj 291 _ (by decide) (by decide)).trans (e k hk).1, (g 4 _ (by decide)).trans (e k hk).2.1, (g 5 _ (by decide)).trans (e k hk).2.2.1, (g 6 _ (by decide)).trans (e k hk).2.2.2⟩⟩
/-- what words ask -/
def en (s a y c p l u d : Nat) : Nat → Int := fun w => if w = 1 then s else if w = 2 then a else if w = 3 then y else if w = 4 then c else if w = 5 then p else if w = 6 then l else if w = 7 then u else d
theorem en_b {s a y c p l u d : Nat} (h1 : s ≤ 9999) (h2 : a ≤ 9999) (h3 : y ≤ 9999) (h4 : c ≤ 9999) (h5 : p ≤ 9999) (h6 : l ≤ 9999) (h7 : u ≤ 9999) (h8 : d ≤ 9999) (w : Nat) : GB (en s a y c p l u d w) := by
  unfold en GB
  repeat' split
  all_goals omega
/-- how much a coat warms -/
def wm (W : Wk) (s a y c l : Nat) : Int := match W.pr 0 with
  | none => 10 - (if W.csz c ≤ s then ((s : Int) - W.csz c) else ((W.csz c : Int) - s))
  | some ts => val ts (en s a y (W.csz c) (W.cpy c) l 0 0)
theorem wm_b {W : Wk} {s a y c l : Nat} (hV : WV W) (hc : c < W.nc) (h1 : s ≤ 9999) (h2 : a ≤ 9999) (h3 : y ≤ 9999) (h6 : l ≤ 9999) : GB (wm W s a y c l) := by
  have v := hV.2.2.1 c hc
  unfold wm
  cases e : W.pr 0 with
  | none =>
    unfold GB
    simp only
    split <;> omega
  | some ts => exact (val_b (fun w _ => en_b h1 h2 h3 (by omega) (by omega) h6 (by omega) (by omega) w) (hV.1 0 ts (by decide) e).2).1
def gz (W : Wk) (s a y : Nat) : Nat := match W.pr 1 with
  | none => s
  | some ts => (if 1 < (if val ts (en s a y 0 0 0 0 0) < 99 then val ts (en s a y 0 0 0 0 0) else 99) then (if val ts (en s a y 0 0 0 0 0) < 99 then val ts (en s a y 0 0 0 0 0) else 99) else 1).toNat
def lv (W : Wk) (s a y u d : Nat) : Bool := match W.pr 2 with
  | none => false
  | some ts => decide (val ts (en s a y 0 0 0 u d) = 1)
section PWk
variable {n h : Nat} {Q : pj_K} {I : Nat → Nat → Int32} {J : Nat → Nat → Int64} {W : Wk} {B : Nat}
theorem s103p (hh : 1 ≤ h) {a k : Nat} (ha : a ∈ [5, 18]) (hk : k < 3) (hP : PC W a I) (hV : WV W) (q : Q (some (.int (bi (W.pr k).isSome))) (zc n, I, J)) : pj_D h 103 [.ref a, .int (nI k)] (zc n, I, J) Q := by
  have hP := hP k hk
  cases e : W.pr k with
  | none =>
    rw [e] at hP q
    exact s103 hh ha hk (f := 0) (t := 0) hP.1 hP.2 (by decide) (by decide) q
  | some ts =>
    rw [e] at hP q
    obtain ⟨f, h1, h2, h3, h4⟩ := hP
    have h5 := (hV.1 k ts hk e).1
    have h6 : 0 < ts.length := List.length_pos_iff.mpr h5
    refine s103 hh ha hk h1 h2 (by omega) (by omega) ?_
    rw [decide_eq_true (by omega)]
    exact q
theorem s218p (hh : 1 ≤ h) {k : Nat} (hk : k < 3) (hB : I 276 13 = nI B) (hB2 : B < 2) (hP : PM W B I) (q : Q (some (.int (bi (W.pr k).isSome))) (zc n, I, J)) : pj_D h 218 [.ref 276, .int (nI k)] (zc n, I, J) Q := by
  have hP := hP k hk
  refine pj_ent (g := 0) hh (t := mt_218) rfl rfl (v218_0 (pj_D_le 0) I J _ ?_)
  rw [hB, li_3k, nI_clamp (n := 3 * B + k) (by omega)]
  refine ⟨pk_in (3 * B + k) 6 (by omega), ?_⟩
  cases e : W.pr k with
  | none =>
    rw [e] at hP q
    have hP : I 286 (3 * B + k) = -1 := hP
    exact br_t hP q
  | some ts =>
    rw [e] at hP q
    obtain ⟨f, h1, h2, h3, h4⟩ := hP
    refine br_f (fun z => ?_) q
    have := (wo_none (o := some f) (fun c' e' => by cases e'; omega)).mp (h1.symm.trans z)
    cases this
end PWk
