/-! years ahead: later, purse, goes, waits -/
def yN (W : Wk) (L : Ly) : Nat → Ly
  | 0 => L
  | k + 1 => yea W none (yN W L k)
theorem yN_V {W : Wk} {L : Ly} (h : LV W L) : ∀ {k : Nat}, L.yr + k ≤ 999 → LV W (yN W L k) ∧ (yN W L k).yr = L.yr + k
  | 0, _ => ⟨h, rfl⟩
  | k + 1, hk => by
    have ih := yN_V h (k := k) (by omega)
    have g := yea_V (w := none) ih.1 (by omega)
    exact ⟨g.1, g.2.trans (by rw [ih.2]; rfl)⟩
/-- the first u years one puts on no coat -/
def yU (W : Wk) (L : Ly) (m u : Nat) : Nat → Ly
  | 0 => L
  | k + 1 => yea W (if k < u then some m else none) (yU W L m u k)
theorem yU_V {W : Wk} {L : Ly} {m u : Nat} (h : LV W L) : ∀ {k : Nat}, L.yr + k ≤ 999 → LV W (yU W L m u k) ∧ (yU W L m u k).yr = L.yr + k
  | 0, _ => ⟨h, rfl⟩
  | k + 1, hk => by
    have ih := yU_V (m := m) (u := u) h (k := k) (by omega)
    have g := yea_V (w := if k < u then some m else none) ih.1 (by omega)
    exact ⟨g.1, g.2.trans (by rw [ih.2]; rfl)⟩
theorem yU_s {W : Wk} {L : Ly} {m u v : Nat} : ∀ {k : Nat}, k ≤ u → k ≤ v → yU W L m u k = yU W L m v k
  | 0, _, _ => rfl
  | k + 1, hu, hv => by
    unfold yU
    rw [yU_s (u := u) (v := v) (k := k) (by omega) (by omega), if_pos (by omega), if_pos (by omega)]
/-- so many years, of some that may be asked -/
def aw (a b y : Nat) (p : Int32) : Option Nat := if 0 ≤ p ∧ a ≤ p.toNatClampNeg ∧ p.toNatClampNeg ≤ b ∧ y + p.toNatClampNeg ≤ 999 then some p.toNatClampNeg else none
theorem aw_s {a b y m : Nat} (h1 : a ≤ m) (h2 : m ≤ b) (h3 : y + m ≤ 999) : aw a b y (nI m) = some m := by
  unfold aw
  rw [nI_clamp (by omega), if_pos ⟨nI_pos' (by omega), h1, h2, h3⟩]
theorem aw_n {a b y : Nat} {p : Int32} (h : ∀ m, a ≤ m → m ≤ b → y + m ≤ 999 → p ≠ nI m) : aw a b y p = none := by
  unfold aw
  refine if_neg (fun z => ?_)
  obtain ⟨j, hj, rfl⟩ := nI_of (x := p) (fun c => by exact absurd (Int32.lt_of_le_of_lt z.1 c) (by decide))
  rw [nI_clamp hj] at z
  exact h j z.2.1 z.2.2.1 z.2.2.2 rfl
def laterV (A : Ab) (p r : Int32) : Int32 := match ix A.W.nm p, aw 0 40 A.L.yr r with
  | some k, some m => wo ((yN A.W A.L m).wor k)
  | _, _ => -1
def purseV (A : Ab) (p r : Int32) : Int32 := match ix A.W.nm p, aw 0 40 A.L.yr r with
  | some k, some m => nI ((yN A.W A.L m).pur k)
  | _, _ => -1
def gsN (W : Wk) (L : Ly) (m : Nat) : Nat → Nat → Option Nat
  | 0, _ => none
  | r + 1, k => if L.yr + k < 999 then (if (yN W L (k + 1)).the m = true then gsN W L m r (k + 1) else some k) else none
/-- one who is there -/
def tix (W : Wk) (L : Ly) (p : Int32) : Option Nat := match ix W.nm p with
  | none => none
  | some k => if L.the k = true then some k else none
theorem tix_s {W : Wk} {L : Ly} {k : Nat} (h7 : W.nm ≤ 7) (h : k < W.nm) (ht : L.the k = true) : tix W L (nI k) = some k := by
  unfold tix
  rw [ix_s h (by omega)]
  simp only
  rw [if_pos ht]
theorem tix_n {W : Wk} {L : Ly} {p : Int32} (h7 : W.nm ≤ 7) (h : ∀ k, k < W.nm → L.the k = true → p ≠ nI k) : tix W L p = none := by
  unfold tix
  by_cases e : ∃ k, k < W.nm ∧ p = nI k
  · obtain ⟨k, hk, rfl⟩ := e
    rw [ix_s hk (by omega)]
    simp only
    rw [if_neg (fun z => h k hk z rfl)]
  · rw [ix_n (by omega) (fun k hk z => e ⟨k, hk, z⟩)]
def goesV (A : Ab) (p : Int32) : Int32 := match tix A.W A.L p with
  | none => -1
  | some m => wo (gsN A.W A.L m 40 0)
/-- how long to wait: the best so far, of the first so many, and its purse -/
def wtN (W : Wk) (L : Ly) (m t : Nat) : Nat → Option Nat × Option Nat
  | 0 => (none, none)
  | u + 1 => match (wtN W L m t u).2 with
    | none => (some u, some ((yU W L m u t).pur m))
    | some f => if f < (yU W L m u t).pur m then (some u, some ((yU W L m u t).pur m)) else wtN W L m t u
def waitsV (A : Ab) (p r : Int32) : Int32 := match tix A.W A.L p with
  | none => -1
  | some m => match A.L.wor m with
    | some _ => -1
    | none => match aw 1 20 A.L.yr r with
      | none => -1
      | some t => wo (wtN A.W A.L m t (t + 1)).1
def calledV (A : Ab) (p r : Int32) : Int32 := if 1 ≤ p ∧ p ≤ 99 ∧ 0 ≤ r ∧ r ≤ 99 then wo (bst A.W A.L p.toNatClampNeg r.toNatClampNeg) else -1
def warmsV (A : Ab) (p r : Int32) : Int64 := match ix A.W.nm p, ix A.W.nc r with
  | some m, some c => iL (wm A.W (A.L.siz m) (A.L.age m) A.L.yr c (A.L.lin c))
  | _, _ => -1000000000000000
section PAh
variable {n h : Nat} {Q : pj_K} {I : Nat → Nat → Int32} {J : Nat → Nat → Int64} {A : Ab}
theorem yS_q {a c j : Nat} (ha : a = 43 ∨ a = 51 ∨ a = 252) (h : qC c j = false) : yS a c j = false := by
  have := qC_f h
  exact yS_f (by omega) (by omega) (by omega) (by omega) (by omega)
theorem lS_q {a c j : Nat} (ha : a = 43 ∨ a = 51 ∨ a = 240 ∨ a = 252) (h : qC c j = false) : lS a c j = false := by
  have := qC_f h
  unfold lS
  have e1 : (Nat.ble (a + 1) c && Nat.ble c (a + 7)) = false := by
    rw [Bool.and_eq_false_iff]
    by_cases z : a + 1 ≤ c
    · right; rw [← Bool.not_eq_true, Nat.ble_eq]; omega
    · left; rw [← Bool.not_eq_true, Nat.ble_eq]; omega
  rw [e1, beq_eq_false_iff_ne.mpr (show c ≠ a by omega)]
  rfl
theorem rg_l {a b c : Nat} (h : c < a ∨ b < c) : (Nat.ble a c && Nat.ble c b) = false := by
  rw [Bool.and_eq_false_iff]
  rcases h with z | z
  · left; rw [← Bool.not_eq_true, Nat.ble_eq]; omega
  · right; rw [← Bool.not_eq_true, Nat.ble_eq]; omega
theorem cS_q {c j : Nat} (h : qC c j = false) : cS c j = false := by
  have := qC_f h
  unfold cS
  rw [beq_eq_false_iff_ne.mpr (by omega), beq_eq_false_iff_ne.mpr (by omega)]
  rfl
theorem lcp_q {a b : Nat} {I' : Nat → Nat → Int32} (ha : a = 43 ∨ a = 51 ∨ a = 240 ∨ a = 252) (h : lcp a b I I') : pj_fr qC I I' := pj_fr_w h.2.2.2.2.2.2.2.2.2 (fun c j hc => lS_q ha hc)
/-- PegCoats.lookAhead -/
theorem s128 (hh : 7 ≤ h) {m : Nat} (hA : AV A) (hI : InvC A I) (hm : m ≤ 40) (hy : A.L.yr + m ≤ 999) (q : ∀ I', pj_fr qC I I' → LC A.W 43 (yN A.W A.L m) I' → Q none (zc n, I', J)) : pj_D h 128 [.ref 2, .int (nI m)] (zc n, I, J) Q := by
  refine pj_ent (g := 6) hh (t := mt_128) rfl rfl (v128_0 (pj_D_le 6) I J _ ?_)
  refine s77 (by decide) (a := 43) (b := 35) (by decide) (fun I1 hc => kV_i ?_)
  suffices loop : ∀ r k I', r + k = m → pj_fr qC I I' → LC A.W 43 (yN A.W A.L k) I' → pj_R (pj_D 6) ta mc_128 false Q 13 [some (.ref 2), some (.int (nI m)), some (.int (nI k))] [] (zc n) I' J 0 0 from
    loop m 0 I1 (by omega) (lcp_q (by decide) hc) (LC_cp hA.2.1 hA.2.2.1 hc hI.2.2.1)
  intro r
  induction r with
  | zero =>
    intro k I' hk hf hL
    obtain rfl : k = m := by omega
    exact v128_13 (pj_D_le 6) I' J _ _ (br_t (nI_le (Nat.le_refl _) (by omega)) (q I' hf hL))
  | succ r ih =>
    intro k I' hk hf hL
    have v := yN_V hA.2.2.2.1 (k := k) (by omega)
    refine v128_13 (pj_D_le 6) I' J _ _ (br_f (nI_ge (by omega) (by omega)) ?_)
    refine s2 (by decide) (w := none) (a := 43) (by decide) (fun k z => by cases z) (InvC_q hf hI).2.1 hA.1 hL v.1 (by omega) (fun I2 hf2 L2 _ _ => kV_i ?_)
    rw [nI_1]
    exact ih (k + 1) I2 (by omega) (pj_fr_tr hf (pj_fr_w hf2 (fun c j hc => yS_q (by decide) hc))) L2
/-- PegCoats.later, purse -/
theorem c126 (hh : 8 ≤ h) {p r : Int32} (hA : AV A) (hI : InvC A I) (q : ∀ I', pj_fr qC I I' → Q (some (.int (laterV A p r))) (zc n, I', J)) : pj_D h 126 [.ref 2, .int p, .int r] (zc n, I, J) Q := by
  have h7 := hA.2.2.1
  refine pj_ent (g := 7) hh (t := mt_126) rfl rfl (v126_0 (pj_D_le 7) I J _ _ ?_)
  refine s122 (by decide) hI.2.1.1.2.2.2.1 h7 (fun k hk e => kI_i ⟨fun z => absurd z (by decide), fun _ => ?_⟩) (fun z => kI_i ⟨fun _ => ?_, fun z => absurd rfl z⟩)
  · subst e
    have q := fun I' f => q I' f
    unfold laterV at q
    rw [ix_s hk (by omega)] at q
    refine s127 (by decide) (a := 0) (b := 40) hI.2.2.1.1 hA.2.2.2.1.1 (by decide) (by decide) (fun m h1 h2 h3 e => kI_i ⟨fun _ => ?_, fun z => absurd z (by decide)⟩) (fun z => kI_i ⟨fun z => absurd rfl z, fun _ => ?_⟩)
    · subst e
      rw [aw_s h1 h2 h3] at q
      refine s128 (Nat.le_refl 7) hA hI h2 h3 (fun I' hf L' => kV_i ⟨pk_in k 7 (by omega), ?_⟩)
      rw [nI_clamp (n := k) (by omega), (L'.2.2 k hk).2.2.1]
      exact q I' hf
    · rw [aw_n z] at q
      exact q I pj_fr_rf
  · have q := q I pj_fr_rf
    unfold laterV at q
    rw [ix_n (by omega) z] at q
    exact q
theorem c129 (hh : 8 ≤ h) {p r : Int32} (hA : AV A) (hI : InvC A I) (q : ∀ I', pj_fr qC I I' → Q (some (.int (purseV A p r))) (zc n, I', J)) : pj_D h 129 [.ref 2, .int p, .int r] (zc n, I, J) Q := by
  have h7 := hA.2.2.1
  refine pj_ent (g := 7) hh (t := mt_129) rfl rfl (v129_0 (pj_D_le 7) I J _ _ ?_)
  refine s122 (by decide) hI.2.1.1.2.2.2.1 h7 (fun k hk e => kI_i ⟨fun z => absurd z (by decide), fun _ => ?_⟩) (fun z => kI_i ⟨fun _ => ?_, fun z => absurd rfl z⟩)
  · subst e
    have q := fun I' f => q I' f
    unfold purseV at q
    rw [ix_s hk (by omega)] at q
    refine s127 (by decide) (a := 0) (b := 40) hI.2.2.1.1 hA.2.2.2.1.1 (by decide) (by decide) (fun m h1 h2 h3 e => kI_i ⟨fun _ => ?_, fun z => absurd z (by decide)⟩) (fun z => kI_i ⟨fun z => absurd rfl z, fun _ => ?_⟩)
    · subst e
      rw [aw_s h1 h2 h3] at q
      refine s128 (Nat.le_refl 7) hA hI h2 h3 (fun I' hf L' => kV_i ⟨pk_in k 7 (by omega), ?_⟩)
      rw [nI_clamp (n := k) (by omega), (L'.2.2 k hk).2.2.2.1]
      exact q I' hf
    · rw [aw_n z] at q
      exact q I pj_fr_rf
  · have q := q I pj_fr_rf
    unfold purseV at q
    rw [ix_n (by omega) z] at q
    exact q
/-- PegCoats.goes -/
theorem c130 (hh : 7 ≤ h) {p : Int32} (hA : AV A) (hI : InvC A I) (q : ∀ I', pj_fr qC I I' → Q (some (.int (goesV A p))) (zc n, I', J)) : pj_D h 130 [.ref 2, .int p] (zc n, I, J) Q := by
  have h7 := hA.2.2.1
  refine pj_ent (g := 6) hh (t := mt_130) rfl rfl (v130_0 (pj_D_le 6) I J _ ?_)
  refine s131 (by decide) hI.2.1.1 hI.2.2.1 (fun m hm e ht => kI_i ⟨fun _ => ?_, fun z => absurd z (by decide)⟩) (fun z => kI_i ⟨fun z => absurd rfl z, fun _ => ?_⟩)
  · subst e
    unfold goesV at q
    rw [tix_s h7 hm ht] at q
    simp only at q
    refine s77 (by decide) (a := 43) (b := 35) (by decide) (fun I1 hc => kV_i ?_)
    suffices loop : ∀ r k I', r + k = 40 → pj_fr qC I I' → A.L.yr + k ≤ 999 → LC A.W 43 (yN A.W A.L k) I' → (∀ I', pj_fr qC I I' → Q (some (.int (wo (gsN A.W A.L m r k)))) (zc n, I', J)) → pj_R (pj_D 6) ta mc_130 false Q 23 [some (.ref 2), some (.int (nI m)), some (.int (nI k))] [] (zc n) I' J 0 0 from
      loop 40 0 I1 (by omega) (lcp_q (by decide) hc) hA.2.2.2.1.1 (LC_cp hA.2.1 hA.2.2.1 hc hI.2.2.1) q
    intro r
    induction r with
    | zero =>
      intro k I' hk hf hy hL q
      obtain rfl : k = 40 := by omega
      exact v130_23 (pj_D_le 6) I' J _ _ (br_t (by decide) (q I' hf))
    | succ r ih =>
      intro k I' hk hf hy hL q
      have v := yN_V hA.2.2.2.1 (k := k) hy
      refine v130_23 (pj_D_le 6) I' J _ _ (br_f (nI_ge (b := 40) (by omega) (by omega)) ?_)
      rw [hL.1, v.2]
      unfold gsN at q
      by_cases c : A.L.yr + k < 999
      · rw [if_pos c] at q
        refine br_f (nI_ge (b := 999) (by omega) (by omega)) ?_
        refine s2 (by decide) (w := none) (a := 43) (by decide) (fun k z => by cases z) (InvC_q hf hI).2.1 hA.1 hL v.1 (by omega) (fun I2 hf2 L2 _ _ => kV_i ⟨pk_in m 7 (by omega), ?_⟩)
        have hf3 := pj_fr_tr hf (pj_fr_w hf2 (fun c j hc => yS_q (by decide) hc))
        have L3 : LC A.W 43 (yN A.W A.L (k + 1)) I2 := L2
        rw [nI_clamp (n := m) (by omega), (L3.2.2 m hm).2.2.2.2, nI_1]
        cases e : (yN A.W A.L (k + 1)).the m with
        | true =>
          rw [e, if_pos rfl] at q
          exact ⟨fun _ => ih (k + 1) I2 (by omega) hf3 (by omega) L3 q, fun z => absurd z (by decide)⟩
        | false =>
          rw [e, if_neg (by decide)] at q
          exact ⟨fun z => absurd rfl z, fun _ => q I2 hf3⟩
      · rw [if_neg c] at q
        exact br_t (nI_le (a := 999) (by omega) (by omega)) (q I' hf)
  · have q := q I pj_fr_rf
    unfold goesV at q
    rw [tix_n h7 z] at q
    exact q
/-- PegCoats.called -/
theorem c138 (hh : 5 ≤ h) {p r : Int32} (hA : AV A) (hI : InvC A I) (q : ∀ I', pj_fr qC I I' → Q (some (.int (calledV A p r))) (zc n, I', J)) : pj_D h 138 [.ref 2, .int p, .int r] (zc n, I, J) Q := by
  have h7 := hA.2.2.1
  have h8 := hA.2.1
  have hW := hI.2.1
  have hL := hI.2.2.1
  have hV := hA.2.2.2.1
  refine pj_ent (g := 4) hh (t := mt_138) rfl rfl (v138_0 (pj_D_le 4) I J _ _ ?_)
  have no : ¬ (1 ≤ p ∧ p ≤ 99 ∧ 0 ≤ r ∧ r ≤ 99) → Q (some (.int (-1))) (zc n, I, J) := fun z => by
    have q := q I pj_fr_rf
    unfold calledV at q
    rw [if_neg z] at q
    exact q
  refine ⟨fun c => no (fun z => absurd (Int32.lt_of_le_of_lt z.1 c) (by decide)), fun c1 => ⟨fun c => no (fun z => absurd (Int32.lt_of_lt_of_le c z.2.1) (by decide)), fun c2 => ⟨fun c => no (fun z => absurd (Int32.lt_of_le_of_lt z.2.2.1 c) (by decide)), fun c3 => ⟨fun c4 => ?_, fun c => no (fun z => c z.2.2.2)⟩⟩⟩⟩
  have c1' := Int32.not_lt.mp c1
  have c2' := Int32.not_lt.mp c2
  have c3' := Int32.not_lt.mp c3
  obtain ⟨s, hs, rfl⟩ := nI_of (x := p) (fun c => absurd (Int32.lt_of_le_of_lt c1' c) (by decide))
  obtain ⟨g, hg, rfl⟩ := nI_of (x := r) c3
  have b1 : s ≤ 99 := (nI_leI (b := 99) hs (by decide)).mp c2'
  have b2 : g ≤ 99 := (nI_leI (b := 99) hg (by decide)).mp c4
  unfold calledV at q
  rw [if_pos ⟨c1', c2', c3', c4⟩, nI_clamp hs, nI_clamp hg] at q
  refine s74 (by decide) (a := 35) (w := A.L.wor) (bu := A.L.bur) (by decide) h7 h8 hW.1.2.2.1 hW.1.2.2.2.1 (fun k hk => (hL.2.2 k hk).2.2.1) (fun k hk => (hL.2.1 k hk).2) (fun j c hj e => by have := (hV.2.2.2.1 j c hj e).1; omega) (kI_i ?_)
  exact s6 (Nat.le_refl 4) (a := 35) (by decide) hW hA.1 hL hV (by omega) (by omega) (fun I' hf => kI_i (q I' (pj_fr_w hf (fun c j hc => cS_q hc))))
/-- PegCoats.warms -/
theorem c125 (hh : 4 ≤ h) {p r : Int32} (hA : AV A) (hI : InvC A I) (q : ∀ I', pj_fr cS I I' → Q (some (.long (warmsV A p r))) (zc n, I', J)) : pj_D h 125 [.ref 2, .int p, .int r] (zc n, I, J) Q := by
  have h7 := hA.2.2.1
  have h8 := hA.2.1
  have hL := hI.2.2.1
  have hV := hA.2.2.2.1
  refine pj_ent (g := 3) hh (t := mt_125) rfl rfl (v125_0 (pj_D_le 3) I J _ _ ?_)
  unfold warmsV at q
  refine s122 (by decide) hI.2.1.1.2.2.2.1 h7 (fun k hk e => kI_i ⟨fun z => absurd z (by decide), fun _ => ?_⟩) (fun z => kI_i ⟨fun _ => ?_, fun z => absurd rfl z⟩)
  · subst e
    rw [ix_s hk (by omega)] at q
    refine s120 (by decide) hI.2.1.1.2.2.1 h8 (fun c hc e => kI_i ⟨fun _ => ?_, fun z => absurd z (by decide)⟩) (fun z => kI_i ⟨fun z => absurd rfl z, fun _ => ?_⟩)
    · subst e
      rw [ix_s hc (by omega)] at q
      have l := hL.2.2 k hk
      have lv := hV.2.2.1 k hk
      have ll := hV.2.1 c hc
      have ly := hV.1
      refine ⟨pk_in k 7 (by omega), pk_in k 7 (by omega), pk_in c 8 (by omega), ?_⟩
      rw [nI_clamp (n := k) (by omega), nI_clamp (n := c) (by omega), l.1, l.2.1, hL.1, (hL.2.1 c hc).1]
      refine s105 (Nat.le_refl 3) hI.2.1 hA.1 hc (by omega) (by omega) (by omega) (by omega) (fun I' hf => kI_i ?_)
      rw [iI_l (wm_b hA.1 hc (by omega) (by omega) (by omega) (by omega)).i]
      exact q I' hf
    · rw [ix_n (by omega) z] at q
      exact q I pj_fr_rf
  · rw [ix_n (by omega) z] at q
    exact q I pj_fr_rf
/-- PegCoats.waits -/
theorem c137 (hh : 7 ≤ h) {p r : Int32} (hA : AV A) (hI : InvC A I) (q : ∀ I', pj_fr qC I I' → Q (some (.int (waitsV A p r))) (zc n, I', J)) : pj_D h 137 [.ref 2, .int p, .int r] (zc n, I, J) Q := by
  have h7 := hA.2.2.1
  have hV := hA.2.2.2.1
  have hL := hI.2.2.1
  refine pj_ent (g := 6) hh (t := mt_137) rfl rfl (v137_0 (pj_D_le 6) I J _ _ ?_)
  unfold waitsV at q
  refine s131 (by decide) hI.2.1.1 hI.2.2.1 (fun m hm e ht => kI_i ⟨fun z => absurd z (by decide), fun _ => ⟨by rw [e]; exact pk_in m 7 (by omega), ?_⟩⟩) (fun z => kI_i ⟨fun _ => ?_, fun z => absurd rfl z⟩)
  · subst e
    rw [tix_s h7 hm ht] at q
    simp only at q
    rw [nI_clamp (n := m) (by omega), (hL.2.2 m hm).2.2.1]
    have hwn := wo_none (o := A.L.wor m) (fun c' e' => by have := (hV.2.2.2.1 m c' hm e').1; have := hA.2.1; omega)
    cases ew : A.L.wor m with
    | some c =>
      rw [ew] at q hwn
      refine ⟨fun _ => ?_, fun z => (by have := hwn.mp z; cases this)⟩
      exact q I pj_fr_rf
    | none =>
      rw [ew] at q
      simp only at q
      refine ⟨fun z => absurd rfl z, fun _ => ?_⟩
      refine s127 (by decide) (a := 1) (b := 20) hI.2.2.1.1 hV.1 (by decide) (by decide) (fun t h1 h2 h3 e => kI_i ⟨fun _ => ?_, fun z => absurd z (by decide)⟩) (fun z => kI_i ⟨fun z => absurd rfl z, fun _ => ?_⟩)
      · subst e
        rw [aw_s h1 h2 h3] at q
        simp only at q
        refine s77 (by decide) (a := 51) (b := 35) (by decide) (fun I1 hc => kV_i ?_)
        have pub : ∀ u k, A.L.yr + k ≤ 999 → (yU A.W A.L m u k).pur m ≤ 9999 := fun u k hk => ((yU_V (m := m) (u := u) hV hk).1.2.2.1 m hm).2.2.2
        have fub : ∀ u f, (wtN A.W A.L m t u).2 = some f → f ≤ 9999 := by
          intro u
          induction u with
          | zero => intro f e; cases e
          | succ u ih =>
            intro f e
            unfold wtN at e
            cases e2 : (wtN A.W A.L m t u).2 with
            | none => rw [e2] at e; cases e; exact pub u t h3
            | some g =>
              rw [e2] at e
              simp only at e
              by_cases c : g < (yU A.W A.L m u t).pur m
              · rw [if_pos c] at e; cases e; exact pub u t h3
              · rw [if_neg c] at e; exact ih f e
        have inner : ∀ (r' k u : Nat) (I' : Nat → Nat → Int32), r' + k = t → u ≤ k → pj_fr qC I I' → LC A.W 51 (yU A.W A.L m u u) I' → LC A.W 43 (yU A.W A.L m u k) I' →
            (∀ I', pj_fr qC I I' → LC A.W 51 (yU A.W A.L m u u) I' → pj_R (pj_D 6) ta mc_137 false Q 53 [some (.ref 2), some (.int (nI m)), some (.int (nI t)), some (.int (wo (wtN A.W A.L m t (u + 1)).1)), some (.int (wo (wtN A.W A.L m t (u + 1)).2)), some (.int (nI (u + 1))), none] [] (zc n) I' J 0 0) →
            pj_R (pj_D 6) ta mc_137 false Q 91 [some (.ref 2), some (.int (nI m)), some (.int (nI t)), some (.int (wo (wtN A.W A.L m t u).1)), some (.int (wo (wtN A.W A.L m t u).2)), some (.int (nI u)), some (.int (nI k))] [] (zc n) I' J 0 0 := by
          intro r'
          induction r' with
          | zero =>
            intro k u I' hk huk hf L5 L4 nx
            obtain rfl : k = t := by omega
            refine v137_91 (pj_D_le 6) I' J _ _ _ _ _ _ (br_t (nI_le (Nat.le_refl _) (by omega)) ⟨pk_in m 7 (by omega), ?_⟩)
            rw [nI_clamp (n := m) (by omega), (L4.2.2 m hm).2.2.2.1, nI_1]
            have nx := nx I' hf L5
            have pb := pub u k h3
            have fb := fub u
            unfold wtN at nx
            cases e2 : (wtN A.W A.L m k u).2 with
            | none =>
              rw [e2] at nx
              exact ⟨fun z => absurd (show nI _ ≤ (-1 : Int32) from z) (fun z => nI_pos (n := (yU A.W A.L m u k).pur m) (by omega) (Int32.lt_of_le_of_lt z (by decide))), fun _ => ⟨pk_in m 7 (by omega), nx⟩⟩
            | some g =>
              rw [e2] at nx
              simp only at nx
              have gb := fb g e2
              refine pk_le ((yU A.W A.L m u k).pur m) g (fun c => ?_) (fun c => ⟨pk_in m 7 (by omega), ?_⟩)
              · rw [if_neg (by omega), e2] at nx
                exact nx
              · rw [if_pos c] at nx
                exact nx
          | succ r' ih =>
            intro k u I' hk huk hf L5 L4 nx
            have v := yU_V (m := m) (u := u) hV (k := k) (by omega)
            refine v137_91 (pj_D_le 6) I' J _ _ _ _ _ _ (br_f (nI_ge (by omega) (by omega)) ?_)
            refine s2 (by decide) (w := none) (a := 43) (by decide) (fun k z => by cases z) (InvC_q hf hI).2.1 hA.1 L4 v.1 (by omega) (fun I2 hf2 L2 _ _ => kV_i ?_)
            have L3 : LC A.W 43 (yU A.W A.L m u (k + 1)) I2 := by
              unfold yU
              rw [if_neg (by omega)]
              exact L2
            rw [nI_1]
            exact ih (k + 1) u I2 (by omega) (by omega) (pj_fr_tr hf (pj_fr_w hf2 (fun c j hc => yS_q (by decide) hc))) (LC_fr (fun c j a1 a2 => hf2 c j (yS_f (by omega) (by omega) (by omega) (by omega) (by omega))) L5) L3 nx
        have outer : ∀ (r' u : Nat) (I' : Nat → Nat → Int32), r' + u = t + 1 → pj_fr qC I I' → LC A.W 51 (yU A.W A.L m (u - 1) (u - 1)) I' →
            pj_R (pj_D 6) ta mc_137 false Q 53 [some (.ref 2), some (.int (nI m)), some (.int (nI t)), some (.int (wo (wtN A.W A.L m t u).1)), some (.int (wo (wtN A.W A.L m t u).2)), some (.int (nI u)), none] [] (zc n) I' J 0 0 := by
          intro r'
          induction r' with
          | zero =>
            intro u I' hu hf L5
            obtain rfl : u = t + 1 := by omega
            exact v137_53 (pj_D_le 6) I' J _ _ _ _ _ (br_t (nI_lt (by omega) (by omega)) (q I' hf))
          | succ r' ih =>
            intro u I' hu hf L5
            refine v137_53 (pj_D_le 6) I' J _ _ _ _ _ (br_f (nI_nlt (by omega) (by omega)) ?_)
            refine ⟨fun c => ?_, fun c => ?_⟩
            · obtain rfl : u = 0 := by
                have := (nI_leI (a := u) (b := 0) (by omega) (by decide)).mp c
                omega
              refine s77 (by decide) (a := 43) (b := 51) (by decide) (fun I2 hc2 => kV_i ?_)
              have f2 := hc2.2.2.2.2.2.2.2.2.2
              exact inner t 0 0 I2 (by omega) (by omega) (pj_fr_tr hf (lcp_q (by decide) hc2)) (LC_fr (fun c j a1 a2 => f2 c j (by unfold lS; rw [Bool.or_eq_false_iff]; exact ⟨rg_l (by omega), by rw [beq_eq_false_iff_ne.mpr (by omega)]; rfl⟩)) L5) (LC_cp hA.2.1 hA.2.2.1 hc2 L5) (fun I3 hf3 L3 => ih 1 I3 (by omega) hf3 L3)
            · have hu0 : 0 < u := by
                rcases Nat.eq_zero_or_pos u with z | z
                · subst z; exact absurd (by decide) c
                · exact z
              have v := yU_V (m := m) (u := u - 1) hV (k := u - 1) (by omega)
              refine s2 (by decide) (w := some m) (a := 51) (by decide) (fun k z => by cases z; omega) (InvC_q hf hI).2.1 hA.1 L5 v.1 (by omega) (fun I2 hf2 L2 _ _ => kV_i ?_)
              have hf3 := pj_fr_tr hf (pj_fr_w hf2 (fun c j hc => yS_q (by decide) hc))
              have L3 : LC A.W 51 (yU A.W A.L m u u) I2 := by
                obtain ⟨w, rfl⟩ : ∃ w, u = w + 1 := ⟨u - 1, by omega⟩
                unfold yU
                rw [if_pos (by omega), yU_s (u := w + 1) (v := w) (by omega) (by omega)]
                exact L2
              refine s77 (by decide) (a := 43) (b := 51) (by decide) (fun I4 hc2 => kV_i ?_)
              have f2 := hc2.2.2.2.2.2.2.2.2.2
              exact inner (t - u) u u I4 (by omega) (by omega) (pj_fr_tr hf3 (lcp_q (by decide) hc2)) (LC_fr (fun c j a1 a2 => f2 c j (by unfold lS; rw [Bool.or_eq_false_iff]; exact ⟨rg_l (by omega), by rw [beq_eq_false_iff_ne.mpr (by omega)]; rfl⟩)) L3) (LC_cp hA.2.1 hA.2.2.1 hc2 L3) (fun I5 hf5 L5 => ih (u + 1) I5 (by omega) hf5 L5)
        exact outer (t + 1) 0 I1 (by omega) (lcp_q (by decide) hc) (LC_cp hA.2.1 hA.2.2.1 hc hI.2.2.1)
      · rw [aw_n z] at q
        exact q I pj_fr_rf
  · rw [tix_n h7 z] at q
    exact q I pj_fr_rf
end PAh
