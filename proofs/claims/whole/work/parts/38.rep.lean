/-! what class and reference both stand for: the works, a layer -/
abbrev Wk : Type := Nat × Nat × (Nat → Nat) × (Nat → Nat) × (Nat → Nat) × (Nat → Nat) × (Nat → Option Nat) × (Nat → List Nat) × (Nat → List Nat) × Nat × (Nat → Option (List (Nat × Nat)))
def Wk.nc (x : Wk) : Nat := x.1
def Wk.nm (x : Wk) : Nat := x.2.1
def Wk.csz (x : Wk) : (Nat → Nat) := x.2.2.1
def Wk.cpy (x : Wk) : (Nat → Nat) := x.2.2.2.1
def Wk.msz (x : Wk) : (Nat → Nat) := x.2.2.2.2.1
def Wk.mag (x : Wk) : (Nat → Nat) := x.2.2.2.2.2.1
def Wk.mco (x : Wk) : (Nat → Option Nat) := x.2.2.2.2.2.2.1
def Wk.cnm (x : Wk) : (Nat → List Nat) := x.2.2.2.2.2.2.2.1
def Wk.mnm (x : Wk) : (Nat → List Nat) := x.2.2.2.2.2.2.2.2.1
def Wk.fire (x : Wk) : Nat := x.2.2.2.2.2.2.2.2.2.1
def Wk.pr (x : Wk) : (Nat → Option (List (Nat × Nat))) := x.2.2.2.2.2.2.2.2.2.2
abbrev Ly : Type := Nat × (Nat → Nat) × (Nat → Bool) × (Nat → Nat) × (Nat → Nat) × (Nat → Option Nat) × (Nat → Nat) × (Nat → Bool)
def Ly.yr (x : Ly) : Nat := x.1
def Ly.lin (x : Ly) : (Nat → Nat) := x.2.1
def Ly.bur (x : Ly) : (Nat → Bool) := x.2.2.1
def Ly.siz (x : Ly) : (Nat → Nat) := x.2.2.2.1
def Ly.age (x : Ly) : (Nat → Nat) := x.2.2.2.2.1
def Ly.wor (x : Ly) : (Nat → Option Nat) := x.2.2.2.2.2.1
def Ly.pur (x : Ly) : (Nat → Nat) := x.2.2.2.2.2.2.1
def Ly.the (x : Ly) : (Nat → Bool) := x.2.2.2.2.2.2.2
/-- a State of the class -/
def LC (W : Wk) (a : Nat) (L : Ly) (I : Nat → Nat → Int32) : Prop := I a 7 = nI L.yr ∧ (∀ k, k < W.nc → I (a + 1) k = nI (L.lin k) ∧ I (a + 2) k = bi (L.bur k)) ∧ ∀ k, k < W.nm → I (a + 3) k = nI (L.siz k) ∧ I (a + 4) k = nI (L.age k) ∧ I (a + 5) k = wo (L.wor k) ∧ I (a + 6) k = nI (L.pur k) ∧ I (a + 7) k = bi (L.the k)
/-- a layer of the reference -/
def LM (W : Wk) (v : Nat) (L : Ly) (I : Nat → Nat → Int32) : Prop := I 299 v = nI L.yr ∧ (∃ S, I 300 v = nI S ∧ S < 256 ∧ ∀ k, k < W.nc → S.testBit k = L.bur k) ∧ (∃ G, I 306 v = nI G ∧ G < 128 ∧ ∀ k, k < W.nm → G.testBit k = !L.the k) ∧ (∀ k, k < W.nc → I 301 (8 * v + k) = nI (L.lin k)) ∧
  ∀ k, k < W.nm → I 302 (7 * v + k) = nI (L.siz k) ∧ I 303 (7 * v + k) = nI (L.age k) ∧ I 304 (7 * v + k) = wo (L.wor k) ∧ I 305 (7 * v + k) = nI (L.pur k)
/-- what holds of every layer -/
def LV (W : Wk) (L : Ly) : Prop := L.yr ≤ 999 ∧ (∀ k, k < W.nc → L.lin k ≤ 99) ∧ (∀ k, k < W.nm → 1 ≤ L.siz k ∧ L.siz k ≤ 99 ∧ L.age k ≤ 99 ∧ L.pur k ≤ 9999) ∧ (∀ k c, k < W.nm → L.wor k = some c → c < W.nc ∧ L.bur c = false ∧ L.the k = true) ∧ ∀ j k c, j < W.nm → k < W.nm → L.wor j = some c → L.wor k = some c → j = k
/-- the numbers of the works -/
def WC (W : Wk) (w : Nat) (I : Nat → Nat → Int32) : Prop := W.nc ≤ 8 ∧ W.nm ≤ 7 ∧ I w 12 = nI W.nc ∧ I w 13 = nI W.nm ∧ ∀ k, k < W.nc → I (w + 2) k = nI (W.csz k) ∧ I (w + 3) k = nI (W.cpy k)
def WM (W : Wk) (B : Nat) (I : Nat → Nat → Int32) : Prop := W.nc ≤ 8 ∧ W.nm ≤ 7 ∧ B < 2 ∧ I 278 B = nI W.nc ∧ I 281 B = nI W.nm ∧ ∀ k, k < W.nc → I 279 (8 * B + k) = nI (W.csz k) ∧ I 280 (8 * B + k) = nI (W.cpy k)
theorem bi_1 (b : Bool) : bi b &&& 1 = bi b := by cases b <;> decide
theorem bi_0 (b : Bool) : bi b = 0 ↔ b = false := by cases b <;> decide
theorem bi_n (b : Bool) : ¬ bi b = 0 ↔ b = true := by cases b <;> decide
theorem wo_eq {o : Option Nat} {k : Nat} (h : ∀ c, o = some c → c < 2 ^ 31) (hk : k < 2 ^ 31) : wo o = nI k ↔ o = some k := by
  cases o with
  | none =>
    refine ⟨fun e => ?_, fun e => by cases e⟩
    have e : (-1 : Int32) = nI k := e
    have hp := nI_pos hk
    rw [← e] at hp
    exact absurd (by decide) hp
  | some c =>
    show nI c = nI k ↔ _
    rw [nI_eq (h c rfl) hk, Option.some.injEq]
theorem LC_cp {W : Wk} {a b : Nat} {L : Ly} {I I' : Nat → Nat → Int32} (h8 : W.nc ≤ 8) (h7 : W.nm ≤ 7) (hc : lcp a b I I') (h : LC W b L I) : LC W a L I' := by
  obtain ⟨c1, c2, c3, c4, c5, c6, c7, c8, -, -⟩ := hc
  obtain ⟨g1, g2, g3⟩ := h
  refine ⟨c8.trans g1, fun k hk => ⟨(c1 k (by omega)).trans (g2 k hk).1, ?_⟩, fun k hk => ⟨(c3 k (by omega)).trans (g3 k hk).1, (c4 k (by omega)).trans (g3 k hk).2.1, (c5 k (by omega)).trans (g3 k hk).2.2.1, (c6 k (by omega)).trans (g3 k hk).2.2.2.1, ?_⟩⟩
  · rw [c2 k (by omega), (g2 k hk).2, bi_1]
  · rw [c7 k (by omega), (g3 k hk).2.2.2.2, bi_1]
theorem LM_cp {W : Wk} {v w m : Nat} {L : Ly} {I I' : Nat → Nat → Int32} (h8 : W.nc ≤ 8) (h7 : W.nm ≤ 7) (hc : mcp v w m I I') (h : LM W w L I) : LM W v L I' := by
  obtain ⟨c1, c2, c3, -, c5, c6, c7, c8, c9, -, -⟩ := hc
  obtain ⟨g1, ⟨S, g2, g3, g4⟩, ⟨G, g5, g6, g7⟩, g8, g9⟩ := h
  exact ⟨c1.trans g1, ⟨S, c2.trans g2, g3, g4⟩, ⟨G, c3.trans g5, g6, g7⟩, fun k hk => (c5 k (by omega)).trans (g8 k hk), fun k hk => ⟨(c6 k (by omega)).trans (g9 k hk).1, (c7 k (by omega)).trans (g9 k hk).2.1, (c8 k (by omega)).trans (g9 k hk).2.2.1, (c9 k (by omega)).trans (g9 k hk).2.2.2⟩⟩
/-- who wears a coat -/
def wr (W : Wk) (L : Ly) (c : Nat) : Option Nat := ff (fun j => decide (L.wor j = some c)) W.nm 0
theorem wr_C {W : Wk} {L : Ly} {a c : Nat} {I : Nat → Nat → Int32} (h8 : W.nc ≤ 8) (hL : LC W a L I) (hV : LV W L) (hc : c < 2 ^ 31) : ff (fun k => decide (I (a + 5) k = nI c)) W.nm 0 = wr W L c := by
  refine ff_cong (fun j _ hj => ?_)
  have hj : j < W.nm := by omega
  rw [(hL.2.2 j hj).2.2.1]
  exact decide_eq_decide.mpr (wo_eq (fun c' e => by have := (hV.2.2.2.1 j c' hj e).1; omega) hc)
theorem wr_M {W : Wk} {L : Ly} {v c : Nat} {I : Nat → Nat → Int32} (h8 : W.nc ≤ 8) (hL : LM W v L I) (hV : LV W L) (hc : c < 2 ^ 31) : ff (fun k => decide (I 304 (7 * v + k) = nI c)) W.nm 0 = wr W L c := by
  refine ff_cong (fun j _ hj => ?_)
  have hj : j < W.nm := by omega
  rw [(hL.2.2.2.2 j hj).2.2.1]
  exact decide_eq_decide.mpr (wo_eq (fun c' e => by have := (hV.2.2.2.1 j c' hj e).1; omega) hc)
section PRp
variable {n h : Nat} {Q : pj_K} {I : Nat → Nat → Int32} {J : Nat → Nat → Int64} {W : Wk} {L : Ly} {B : Nat}
/-- what coat() and man() tell -/
def coatV (W : Wk) (L : Ly) (k : Nat) (q : Int32) : Int32 := if q = 0 then nI (W.csz k) else if q = 1 then nI (W.cpy k) else if q = 2 then nI (L.lin k) else if q = 3 then bi (L.bur k) else if q = 4 then wo (wr W L k) else -1
def manV (L : Ly) (k : Nat) (q : Int32) : Int32 := if q = 0 then nI (L.siz k) else if q = 1 then nI (L.age k) else if q = 2 then wo (L.wor k) else if q = 3 then nI (L.pur k) else if q = 4 then bi (L.the k) else -1
theorem s123 (hh : 2 ≤ h) {p q : Int32} (hW : WC W 5 I) (hL : LC W 35 L I) (hV : LV W L) (q1 : ∀ k, k < W.nc → p = nI k → Q (some (.int (coatV W L k q))) (zc n, I, J)) (q2 : (∀ k, k < W.nc → p ≠ nI k) → Q (some (.int (-1))) (zc n, I, J)) : pj_D h 123 [.ref 2, .int p, .int q] (zc n, I, J) Q := by
  obtain ⟨w1, w2, w3, w4, w5⟩ := hW
  refine pj_ent (g := 1) hh (t := mt_123) rfl rfl (v123_0 (pj_D_le 1) I J _ _ ?_)
  refine s120 (Nat.le_refl 1) w3 w1 (fun k hk e => kI_i ⟨fun _ => ?_, fun z => absurd z (by decide)⟩) (fun z => kI_i ⟨fun z => absurd rfl z, fun _ => q2 z⟩)
  subst e
  have q1 := q1 k hk rfl
  have i8 := pk_in (x := nI k) k 8 (by omega)
  unfold coatV at q1
  rw [nI_clamp (by omega), w4]
  refine ⟨fun c => ⟨i8, ?_⟩, fun c0 => ⟨fun c => ⟨i8, ?_⟩, fun c1 => ⟨fun c => ⟨i8, ?_⟩, fun c2 => ⟨fun c => ⟨i8, ?_⟩, fun c3 => ⟨fun c => ?_, fun c4 => ?_⟩⟩⟩⟩⟩
  · rw [if_pos c] at q1; rw [(w5 k hk).1]; exact q1
  · rw [if_neg c0, if_pos c] at q1; rw [(w5 k hk).2]; exact q1
  · rw [if_neg c0, if_neg c1, if_pos c] at q1; rw [(hL.2.1 k hk).1]; exact q1
  · rw [if_neg c0, if_neg c1, if_neg c2, if_pos c] at q1
    rw [(hL.2.1 k hk).2]
    cases e : L.bur k with
    | true => rw [e] at q1; exact ⟨fun z => absurd z (by decide), fun _ => q1⟩
    | false => rw [e] at q1; exact ⟨fun _ => q1, fun z => absurd rfl z⟩
  · rw [if_neg c0, if_neg c1, if_neg c2, if_neg c3, if_pos c] at q1
    refine s76 (Nat.le_refl 1) (a := 35) (by decide) w2 (kI_i ?_)
    rw [wr_C w1 hL hV (by omega)]
    exact q1
  · rw [if_neg c0, if_neg c1, if_neg c2, if_neg c3, if_neg c4] at q1; exact q1
theorem s213 (hh : 2 ≤ h) {p q : Int32} (hB : I 276 13 = nI B) (hW : WM W B I) (hL : LM W 0 L I) (hV : LV W L) (q1 : ∀ k, k < W.nc → p = nI k → Q (some (.int (coatV W L k q))) (zc n, I, J)) (q2 : (∀ k, k < W.nc → p ≠ nI k) → Q (some (.int (-1))) (zc n, I, J)) : pj_D h 213 [.ref 276, .int p, .int q] (zc n, I, J) Q := by
  obtain ⟨w1, w2, w0, w3, w4, w5⟩ := hW
  refine pj_ent (g := 1) hh (t := mt_213) rfl rfl (v213_0 (pj_D_le 1) I J _ _ ?_)
  refine s211 (Nat.le_refl 1) hB w0 w3 w1 (fun k hk e => kI_i ⟨fun _ => ?_, fun z => absurd z (by decide)⟩) (fun z => kI_i ⟨fun z => absurd rfl z, fun _ => q2 z⟩)
  subst e
  have q1 := q1 k hk rfl
  have i8 := pk_in (x := nI (8 * B + k)) (8 * B + k) 16 (by omega)
  unfold coatV at q1
  obtain ⟨S, g2, g3, g4⟩ := hL.2.1
  have l0 := hL.2.2.2.1 k hk
  rw [Nat.mul_zero, Nat.zero_add] at l0
  rw [hB, li_8, nI_clamp (n := 8 * B + k) (by omega), nI_clamp (n := k) (by omega)]
  refine ⟨fun c => ⟨i8, ?_⟩, fun c0 => ⟨fun c => ⟨i8, ?_⟩, fun c1 => ⟨fun c => ⟨pk_in k 176 (by omega), ?_⟩, fun c2 => ⟨fun c => ?_, fun c3 => ⟨fun c => ?_, fun c4 => ?_⟩⟩⟩⟩⟩
  · rw [if_pos c] at q1; rw [(w5 k hk).1]; exact q1
  · rw [if_neg c0, if_pos c] at q1; rw [(w5 k hk).2]; exact q1
  · rw [if_neg c0, if_neg c1, if_pos c] at q1; rw [l0]; exact q1
  · rw [if_neg c0, if_neg c1, if_neg c2, if_pos c] at q1
    rw [g2]
    refine s207 (Nat.le_refl 1) (by omega) (by omega) (kI_i ?_)
    rw [g4 k hk]
    cases e : L.bur k with
    | true => rw [e] at q1; exact ⟨fun z => absurd z (by decide), fun _ => q1⟩
    | false => rw [e] at q1; exact ⟨fun _ => q1, fun z => absurd rfl z⟩
  · rw [if_neg c0, if_neg c1, if_neg c2, if_neg c3, if_pos c] at q1
    refine s209 (Nat.le_refl 1) (v := 0) (by decide) hB w0 w4 w2 (kI_i ?_)
    rw [wr_M w1 hL hV (by omega)]
    exact q1
  · rw [if_neg c0, if_neg c1, if_neg c2, if_neg c3, if_neg c4] at q1; exact q1
theorem s124 (hh : 2 ≤ h) {p q : Int32} (hW : WC W 5 I) (hL : LC W 35 L I) (q1 : ∀ k, k < W.nm → p = nI k → Q (some (.int (manV L k q))) (zc n, I, J)) (q2 : (∀ k, k < W.nm → p ≠ nI k) → Q (some (.int (-1))) (zc n, I, J)) : pj_D h 124 [.ref 2, .int p, .int q] (zc n, I, J) Q := by
  obtain ⟨w1, w2, w3, w4, w5⟩ := hW
  refine pj_ent (g := 1) hh (t := mt_124) rfl rfl (v124_0 (pj_D_le 1) I J _ _ ?_)
  refine s122 (Nat.le_refl 1) w4 w2 (fun k hk e => kI_i ⟨fun _ => ?_, fun z => absurd z (by decide)⟩) (fun z => kI_i ⟨fun z => absurd rfl z, fun _ => q2 z⟩)
  subst e
  have q1 := q1 k hk rfl
  have i7 := pk_in (x := nI k) k 7 (by omega)
  obtain ⟨l1, l2, l3, l4, l5⟩ := hL.2.2 k hk
  unfold manV at q1
  rw [nI_clamp (by omega)]
  refine ⟨fun c => ⟨i7, ?_⟩, fun c0 => ⟨fun c => ⟨i7, ?_⟩, fun c1 => ⟨fun c => ⟨i7, ?_⟩, fun c2 => ⟨fun c => ⟨i7, ?_⟩, fun c3 => ⟨fun c => ⟨i7, ?_⟩, fun c4 => ?_⟩⟩⟩⟩⟩
  · rw [if_pos c] at q1; rw [l1]; exact q1
  · rw [if_neg c0, if_pos c] at q1; rw [l2]; exact q1
  · rw [if_neg c0, if_neg c1, if_pos c] at q1; rw [l3]; exact q1
  · rw [if_neg c0, if_neg c1, if_neg c2, if_pos c] at q1; rw [l4]; exact q1
  · rw [if_neg c0, if_neg c1, if_neg c2, if_neg c3, if_pos c] at q1
    rw [l5]
    cases e : L.the k with
    | true => rw [e] at q1; exact ⟨fun z => absurd z (by decide), fun _ => q1⟩
    | false => rw [e] at q1; exact ⟨fun _ => q1, fun z => absurd rfl z⟩
  · rw [if_neg c0, if_neg c1, if_neg c2, if_neg c3, if_neg c4] at q1; exact q1
theorem s214 (hh : 3 ≤ h) {p q : Int32} (hB : I 276 13 = nI B) (hW : WM W B I) (hL : LM W 0 L I) (q1 : ∀ k, k < W.nm → p = nI k → Q (some (.int (manV L k q))) (zc n, I, J)) (q2 : (∀ k, k < W.nm → p ≠ nI k) → Q (some (.int (-1))) (zc n, I, J)) : pj_D h 214 [.ref 276, .int p, .int q] (zc n, I, J) Q := by
  obtain ⟨w1, w2, w0, w3, w4, w5⟩ := hW
  refine pj_ent (g := 2) hh (t := mt_214) rfl rfl (v214_0 (pj_D_le 2) I J _ _ ?_)
  refine s212 (by decide) hB w0 w4 w2 (fun k hk e => kI_i ⟨fun _ => ?_, fun z => absurd z (by decide)⟩) (fun z => kI_i ⟨fun z => absurd rfl z, fun _ => q2 z⟩)
  subst e
  have q1 := q1 k hk rfl
  have i7 := pk_in (x := nI k) k 154 (by omega)
  obtain ⟨l1, l2, l3, l4⟩ := hL.2.2.2.2 k hk
  rw [Nat.mul_zero, Nat.zero_add] at l1 l2 l3 l4
  obtain ⟨G, g2, g3, g4⟩ := hL.2.2.1
  unfold manV at q1
  rw [nI_clamp (by omega)]
  refine ⟨fun c => ⟨i7, ?_⟩, fun c0 => ⟨fun c => ⟨i7, ?_⟩, fun c1 => ⟨fun c => ⟨i7, ?_⟩, fun c2 => ⟨fun c => ⟨i7, ?_⟩, fun c3 => ⟨fun c => ?_, fun c4 => ?_⟩⟩⟩⟩⟩
  · rw [if_pos c] at q1; rw [l1]; exact q1
  · rw [if_neg c0, if_pos c] at q1; rw [l2]; exact q1
  · rw [if_neg c0, if_neg c1, if_pos c] at q1; rw [l3]; exact q1
  · rw [if_neg c0, if_neg c1, if_neg c2, if_pos c] at q1; rw [l4]; exact q1
  · rw [if_neg c0, if_neg c1, if_neg c2, if_neg c3, if_pos c] at q1
    refine s206 (Nat.le_refl 2) (v := 0) (by decide) g2 (by omega) (by omega) (kI_i ?_)
    rw [g4 k hk, Bool.not_not]
    cases e : L.the k with
    | true => rw [e] at q1; exact ⟨fun z => absurd z (by decide), fun _ => q1⟩
    | false => rw [e] at q1; exact ⟨fun _ => q1, fun z => absurd rfl z⟩
  · rw [if_neg c0, if_neg c1, if_neg c2, if_neg c3, if_neg c4] at q1; exact q1
end PRp
