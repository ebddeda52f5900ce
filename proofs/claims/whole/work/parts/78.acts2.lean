/-! acts: years, chance, pass, put, hang, undo -/
def Ly.hng (L : Ly) (i : Nat) : Ly := (L.yr, L.lin, L.bur, L.siz, L.age, upd1 L.wor i none, L.pur, L.the)
theorem hng_LV {W : Wk} {L : Ly} {i : Nat} (h : LV W L) : LV W (L.hng i) := by
  obtain ⟨h0, h1, h2, h3, h4⟩ := h
  have sub : ∀ k c, upd1 L.wor i none k = some c → L.wor k = some c := fun k c e => by
    by_cases d : k = i
    · rw [d, upd1_e] at e; cases e
    · rw [upd1_n d] at e; exact e
  exact ⟨h0, h1, h2, fun k c hk hc => h3 k c hk (sub k c hc), fun j k c hj hk a b => h4 j k c hj hk (sub j c a) (sub k c b)⟩
theorem burn_LV {W : Wk} {L : Ly} {c : Nat} (h : LV W L) : LV W (L.burn c (wr W L c)) := by
  obtain ⟨h0, h1, h2, h3, h4⟩ := h
  have sub : ∀ k d, (L.burn c (wr W L c)).wor k = some d → L.wor k = some d ∧ wr W L c ≠ some k := fun k d e => by
    rw [burn_wor] at e
    by_cases z : wr W L c = some k
    · rw [if_pos z] at e; cases e
    · rw [if_neg z] at e; exact ⟨e, z⟩
  refine ⟨h0, h1, h2, fun k d hk hd => ?_, fun j k d hj hk a b => h4 j k d hj hk (sub j d a).1 (sub k d b).1⟩
  obtain ⟨e1, e2⟩ := sub k d hd
  obtain ⟨q1, q2, q3⟩ := h3 k d hk e1
  refine ⟨q1, ?_, q3⟩
  rw [burn_bur]
  by_cases z : d = c
  · subst z
    exfalso
    cases e3 : wr W L d with
    | none =>
      unfold wr at e3
      have := ff_none e3 k (by omega) (by omega)
      rw [decide_eq_true e1] at this
      cases this
    | some j =>
      have := ff_some e3
      have := h4 j k d (by omega) hk (of_decide_eq_true this.2.2) e1
      rw [this] at e3
      exact e2 e3
  · rw [if_neg z]; exact q2
theorem chg_LV {W : Wk} {L : Ly} {i j : Nat} (h : LV W L) (hi : i < W.nm) (hj : j < W.nm) (ti : L.the i = true) (tj : L.the j = true) (hij : i ≠ j) : LV W (L.chg i j) := by
  obtain ⟨h0, h1, h2, h3, h4⟩ := h
  have ew : ∀ k, (L.chg i j).wor k = if k = j then L.wor i else if k = i then L.wor j else L.wor k := fun k => by
    unfold Ly.chg
    rw [dress_wor, dress_wor]
  have el : ∀ k, k < W.nc → (L.chg i j).lin k ≤ 99 := dress_99 (dress_99 h1)
  refine ⟨h0, el, h2, fun k c hk hc => ?_, fun a b c ha hb ea eb => ?_⟩
  · rw [ew] at hc
    show c < W.nc ∧ L.bur c = false ∧ L.the k = true
    by_cases e1 : k = j
    · rw [if_pos e1] at hc; have := h3 i c hi hc; rw [e1]; exact ⟨this.1, this.2.1, tj⟩
    · rw [if_neg e1] at hc
      by_cases e2 : k = i
      · rw [if_pos e2] at hc; have := h3 j c hj hc; rw [e2]; exact ⟨this.1, this.2.1, ti⟩
      · rw [if_neg e2] at hc; exact h3 k c hk hc
  · rw [ew] at ea eb
    have key : ∀ k, k < W.nm → (if k = j then L.wor i else if k = i then L.wor j else L.wor k) = L.wor (if k = j then i else if k = i then j else k) := fun k _ => by
      by_cases e1 : k = j
      · rw [if_pos e1, if_pos e1]
      · by_cases e2 : k = i
        · rw [if_neg e1, if_pos e2, if_neg e1, if_pos e2]
        · rw [if_neg e1, if_neg e2, if_neg e1, if_neg e2]
    rw [key a ha] at ea
    rw [key b hb] at eb
    have lt : ∀ k, k < W.nm → (if k = j then i else if k = i then j else k) < W.nm := fun k hk => by
      by_cases e1 : k = j
      · rw [if_pos e1]; exact hi
      · rw [if_neg e1]
        by_cases e2 : k = i
        · rw [if_pos e2]; exact hj
        · rw [if_neg e2]; exact hk
    have := h4 _ _ c (lt a ha) (lt b hb) ea eb
    by_cases a1 : a = j
    · by_cases b1 : b = j
      · omega
      · rw [if_pos a1, if_neg b1] at this
        by_cases b2 : b = i
        · rw [if_pos b2] at this; omega
        · rw [if_neg b2] at this; omega
    · rw [if_neg a1] at this
      by_cases a2 : a = i
      · rw [if_pos a2] at this
        by_cases b1 : b = j
        · rw [if_pos b1] at this; omega
        · rw [if_neg b1] at this
          by_cases b2 : b = i
          · omega
          · rw [if_neg b2] at this; omega
      · rw [if_neg a2] at this
        by_cases b1 : b = j
        · rw [if_pos b1] at this; omega
        · rw [if_neg b1] at this
          by_cases b2 : b = i
          · rw [if_pos b2] at this; omega
          · rw [if_neg b2] at this; exact this
/-- so many years kept, and how many coats were put on -/
def yrN (A : Ab) : Nat → Ab × Nat
  | 0 => (A, 0)
  | k + 1 => ((yrN A k).1.yr1, (yrN A k).2 + (y3 (yrN A k).1.W none (yrN A k).1.L).2)
theorem yr1_yr {A : Ab} (hA : AV A) (hy : A.L.yr < 999) : A.yr1.L.yr = A.L.yr + 1 := (yea_V (w := none) hA.2.2.2.1 hy).2
theorem yrN_V {A : Ab} (hA : AV A) : ∀ {k : Nat}, A.L.yr + k ≤ 999 → AV (yrN A k).1 ∧ (yrN A k).1.L.yr = A.L.yr + k ∧ (yrN A k).2 ≤ 7 * k
  | 0, _ => ⟨hA, rfl, Nat.le_refl _⟩
  | k + 1, hk => by
    have ih := yrN_V hA (k := k) (by omega)
    have b := (yea_LV (w := none) ih.1.2.2.2.1).2.2.2.2.2.2
    have b2 := ih.1.2.2.1
    refine ⟨AV_yr1 ih.1 (by omega), (yr1_yr ih.1 (by omega)).trans (by rw [ih.2.1]; rfl), ?_⟩
    show (yrN A k).2 + (y3 (yrN A k).1.W none (yrN A k).1.L).2 ≤ 7 * (k + 1)
    omega
def yearsR (A : Ab) (p : Int32) : Ab × Int32 := match aw 1 40 A.L.yr p with
  | none => (A.ref 2, -1)
  | some m => ((yrN A.push m).1, nI (yrN A.push m).2)
/-- a coat may burn: two draws -/
def bu2 (A : Ab) (s t : Nat) : Ab × Nat :=
  if A.W.fire ≤ s / 64 % 100 then (A.sS s, 0) else if A.W.nc = 0 then (A.sS s, 0) else
    if A.L.bur (t / 64 % A.W.nc) = true then ((A.sS s).sS t, 0) else (((A.sS s).sS t).sL (A.L.burn (t / 64 % A.W.nc) (wr A.W A.L (t / 64 % A.W.nc))), 1)
def bu1 (A : Ab) : Ab × Nat := bu2 A (nxd A.sd) (nxd (nxd A.sd))
theorem sd_sS {A : Ab} {s : Nat} : (A.sS s).sd = s := rfl
theorem AV_sS {A : Ab} {s : Nat} (h : AV A) (hs : s < 2 ^ 31) : AV (A.sS s) := by
  obtain ⟨h1, h2, h3, h4, h5, h6, h7, h8, h9, h10, h11⟩ := h
  exact ⟨h1, h2, h3, h4, h5, h6, h7, h8, h9, hs, h11⟩
theorem bu2_V {A : Ab} {s t : Nat} (hA : AV A) (hs : s < 2 ^ 31) (ht : t < 2 ^ 31) : AV (bu2 A s t).1 ∧ (bu2 A s t).1.L.yr = A.L.yr ∧ (bu2 A s t).2 ≤ 1 := by
  unfold bu2
  have s1 := AV_sS hA hs
  have s2 := AV_sS s1 ht
  split
  · exact ⟨s1, rfl, Nat.zero_le _⟩
  · split
    · exact ⟨s1, rfl, Nat.zero_le _⟩
    · split
      · exact ⟨s2, rfl, Nat.zero_le _⟩
      · exact ⟨AV_sL s2 (burn_LV hA.2.2.2.1) (Nat.le_refl _), rfl, Nat.le_refl _⟩
theorem bu1_V {A : Ab} (hA : AV A) : AV (bu1 A).1 ∧ (bu1 A).1.L.yr = A.L.yr ∧ (bu1 A).2 ≤ 1 := bu2_V hA (nxd_lt _) (nxd_lt _)
def chN (A : Ab) : Nat → Ab × Nat
  | 0 => (A, 0)
  | k + 1 => ((bu1 (chN A k).1).1.yr1, (chN A k).2 + (bu1 (chN A k).1).2)
theorem chN_V {A : Ab} (hA : AV A) : ∀ {k : Nat}, A.L.yr + k ≤ 999 → AV (chN A k).1 ∧ (chN A k).1.L.yr = A.L.yr + k ∧ (chN A k).2 ≤ k
  | 0, _ => ⟨hA, rfl, Nat.le_refl _⟩
  | k + 1, hk => by
    have ih := chN_V hA (k := k) (by omega)
    have b := bu1_V ih.1
    refine ⟨AV_yr1 b.1 (by omega), (yr1_yr b.1 (by omega)).trans (by rw [b.2.1, ih.2.1]; rfl), ?_⟩
    show (chN A k).2 + (bu1 (chN A k).1).2 ≤ k + 1
    omega
def chanceR (A : Ab) (p : Int32) : Ab × Int32 := match aw 1 40 A.L.yr p with
  | none => (A.ref 2, -1)
  | some m => ((chN A.push m).1, nI (chN A.push m).2)
def passR (A : Ab) (p r : Int32) : Ab × Int32 := match tix A.W A.L p with
  | none => (A.ref 3, 0)
  | some i => match tix A.W A.L r with
    | none => (A.ref 3, 0)
    | some j => if i = j ∨ (A.L.wor i = none ∧ A.L.wor j = none) then (A.ref 3, 0) else (A.push.sL (A.L.chg i j), 1)
def putR (A : Ab) (p r : Int32) : Ab × Int32 := match tix A.W A.L p with
  | none => (A.ref 3, 0)
  | some i => match A.L.wor i with
    | some _ => (A.ref 3, 0)
    | none => match ix A.W.nc r with
      | none => (A.ref 3, 0)
      | some c => match peg A.W A.L c with
        | true => (A.push.sL (A.L.dress i (some c)), 1)
        | false => (A.ref 3, 0)
def hangR (A : Ab) (p : Int32) : Ab × Int32 := match ix A.W.nm p with
  | none => (A.ref 3, 0)
  | some i => match A.L.wor i with
    | none => (A.ref 3, 0)
    | some _ => (A.push.sL (A.L.hng i), 1)
def undoR (A : Ab) : Ab × Int32 := if A.hs.1 = 0 then (A.ref 4, 0) else (A.pop, 1)
section PA2
variable {n h : Nat} {Q : pj_K} {I : Nat → Nat → Int32} {J : Nat → Nat → Int64} {A : Ab}
/-- a refusal: the class denies -/
theorem c114 (hh : 1 ≤ h) {k : Nat} (hk : k < 6) (hI : InvC A I) (q : ∀ I', cF I I' → InvC (A.ref k) I' → Q (some (.int 0)) (zc n, I', J)) : pj_D h 114 [.ref 2, .int (nI k)] (zc n, I, J) Q :=
  s114 hh hk (q _ (cF_u (by decide) (fun _ _ _ => rfl)) (InvC_rf hk hI))
theorem c112 (hh : 1 ≤ h) {k : Nat} (hk : k < 6) (hI : InvC A I) (q : ∀ I', cF I I' → InvC (A.ref k) I' → Q (some (.int (-1))) (zc n, I', J)) : pj_D h 112 [.ref 2, .int (nI k)] (zc n, I, J) Q :=
  s112 hh hk (q _ (cF_u (by decide) (fun _ _ _ => rfl)) (InvC_rf hk hI))
theorem m160 (hh : 1 ≤ h) {k : Nat} (hk : k < 6) (hA : AV A) (hI : InvM A I J) (q : ∀ I', mF I I' → InvM (A.ref k) I' J → Q (some (.int (-1))) (zc n, I', J)) : pj_D h 160 [.ref 276, .int (nI k)] (zc n, I, J) Q :=
  s160 hh hk (q _ (mF_u (by decide) (fun _ _ _ => rfl)) (InvM_rf hA hk hI))
/-- PegCoats.years -/
theorem c142 (hh : 8 ≤ h) {p : Int32} (hA : AV A) (hI : InvC A I) (q : ∀ I', cF I I' → InvC (yearsR A p).1 I' → Q (some (.int (yearsR A p).2)) (zc n, I', J)) : pj_D h 142 [.ref 2, .int p] (zc n, I, J) Q := by
  refine pj_ent (g := 7) hh (t := mt_142) rfl rfl (v142_0 (pj_D_le 7) I J _ ?_)
  unfold yearsR at q
  refine s127 (by decide) (a := 1) (b := 40) hI.2.2.1.1 hA.2.2.2.1.1 (by decide) (by decide) (fun m h1 h2 h3 e => kI_i ⟨fun _ => ?_, fun z => absurd z (by decide)⟩) (fun z => kI_i ⟨fun z => absurd rfl z, fun _ => ?_⟩)
  · subst e
    rw [aw_s h1 h2 h3] at q
    refine c10 (by decide) hA hI (fun I1 f1 hI1 => kV_i ?_)
    have hP := AV_push hA
    suffices loop : ∀ r k I', r + k = m → cF I I' → InvC (yrN A.push k).1 I' → pj_R (pj_D 7) ta mc_142 false Q 32 [some (.ref 2), some (.int (nI m)), some (.int (nI (yrN A.push k).2)), some (.int (nI k))] [] (zc n) I' J 0 0 from loop m 0 I1 (by omega) f1 hI1
    intro r
    induction r with
    | zero =>
      intro k I' hk hf hI'
      obtain rfl : k = m := by omega
      exact v142_32 (pj_D_le 7) I' J _ _ _ (br_t (nI_le (Nat.le_refl _) (by omega)) (q I' hf hI'))
    | succ r ih =>
      intro k I' hk hf hI'
      have v := yrN_V hP (k := k) (by have : A.push.L.yr = A.L.yr := rfl; omega)
      have e0 : A.push.L.yr = A.L.yr := rfl
      refine v142_32 (pj_D_le 7) I' J _ _ _ (br_f (nI_ge (by omega) (by omega)) (c143 (Nat.le_refl 7) v.1 hI' (by omega) (fun I2 f2 hI2 h34 => kV_i ?_)))
      rw [h34, nI_add, nI_1]
      exact ih (k + 1) I2 (by omega) (cF_tr hf f2) hI2
  · rw [aw_n z] at q
    exact c112 (by decide) (k := 2) (by decide) hI (fun I1 f1 hI1 => kI_i (q I1 f1 hI1))
/-- PegCoatsModel.years -/
theorem m249 (hh : 8 ≤ h) {p : Int32} (hA : AV A) (hI : InvM A I J) (q : ∀ I' J', mF I I' → InvM (yearsR A p).1 I' J' → Q (some (.int (yearsR A p).2)) (zc n, I', J')) : pj_D h 249 [.ref 276, .int p] (zc n, I, J) Q := by
  refine pj_ent (g := 7) hh (t := mt_249) rfl rfl (v249_0 (pj_D_le 7) I J _ ?_)
  unfold yearsR at q
  refine s224 (by decide) (a := 1) (b := 40) hI.2.2.1.1 hA.2.2.2.1.1 (by decide) (by decide) (fun m h1 h2 h3 e => kI_i ⟨fun _ => ?_, fun z => absurd z (by decide)⟩) (fun z => kI_i ⟨fun z => absurd rfl z, fun _ => ?_⟩)
  · subst e
    rw [aw_s h1 h2 h3] at q
    refine m250 (by decide) hA hI (fun I1 f1 hI1 => kV_i ?_)
    have hP := AV_push hA
    suffices loop : ∀ r k I' J', r + k = m → mF I I' → InvM (yrN A.push k).1 I' J' → pj_R (pj_D 7) ta mc_249 false Q 25 [some (.ref 276), some (.int (nI m)), some (.int (nI (yrN A.push k).2)), some (.int (nI k))] [] (zc n) I' J' 0 0 from loop m 0 I1 J (by omega) f1 hI1
    intro r
    induction r with
    | zero =>
      intro k I' J' hk hf hI'
      obtain rfl : k = m := by omega
      exact v249_25 (pj_D_le 7) I' J' _ _ _ (br_t (nI_le (Nat.le_refl _) (by omega)) (q I' J' hf hI'))
    | succ r ih =>
      intro k I' J' hk hf hI'
      have e0 : A.push.L.yr = A.L.yr := rfl
      have v := yrN_V hP (k := k) (by omega)
      refine v249_25 (pj_D_le 7) I' J' _ _ _ (br_f (nI_ge (by omega) (by omega)) (m226 (by decide) v.1 hI' (by omega) (fun I2 J2 f2 hI2 => kI_i ?_)))
      rw [nI_add, nI_1]
      exact ih (k + 1) I2 J2 (by omega) (mF_tr hf f2) hI2
  · rw [aw_n z] at q
    exact m160 (by decide) (k := 2) (by decide) hA hI (fun I1 f1 hI1 => kI_i (q I1 J f1 hI1))
/-- PegCoats.burnsOne -/
theorem c145 (hh : 3 ≤ h) (hA : AV A) (hI : InvC A I) (q : ∀ I', cF I I' → InvC (bu1 A).1 I' → Q (some (.int (nI (bu1 A).2))) (zc n, I', J)) : pj_D h 145 [.ref 2] (zc n, I, J) Q := by
  have hs := hA.2.2.2.2.2.2.2.2.2.1
  have h8 := hA.2.1
  refine pj_ent (g := 2) hh (t := mt_145) rfl rfl (v145_0 (pj_D_le 2) I J ?_)
  unfold bu1 at q
  refine s146 (by decide) (m := 100) hI.2.2.2.2.2.2.1 hs (by decide) (by decide) (kI_i ?_)
  have l1 := nxd_lt A.sd
  have l2 := nxd_lt (nxd A.sd)
  have fm : nxd A.sd / 64 % 100 < 100 := Nat.mod_lt _ (by decide)
  generalize eT : nxd (nxd A.sd) = t at q l2
  generalize nxd A.sd = s at eT q l1 fm
  have hI1 := InvC_sd (s := s) hI
  have hA1 := AV_sS hA l1
  have f1 : cF I (pj_u I 2 15 (nI s)) := cF_u (by decide) (fun _ _ _ => rfl)
  generalize pj_u I 2 15 (nI s) = I1 at hI1 f1
  have e5 : I1 5 15 = nI A.W.fire := hI1.2.1.2.2.1
  have e12 : I1 5 12 = nI A.W.nc := hI1.2.1.1.2.2.1
  rw [e5, e12]
  unfold bu2 at q
  have ff : A.W.fire ≤ 100 := hA.1.2.1
  refine pk_le A.W.fire (s / 64 % 100) (fun c => ?_) (fun c => ?_)
  · rw [if_pos c] at q
    exact q I1 f1 hI1
  · rw [if_neg (by omega)] at q
    have n0 : nI A.W.nc = 0 ↔ A.W.nc = 0 := nI_eq (b := 0) (by omega) (by decide)
    rw [n0]
    refine ⟨fun d => ?_, fun d => ?_⟩
    · rw [if_neg d] at q
      have es : I1 2 15 = nI s := hI1.2.2.2.2.2.2.1
      refine s146 (by decide) (m := A.W.nc) es l1 (by omega) (by omega) (kI_i ?_)
      rw [eT]
      have hI2 := InvC_sd (s := t) hI1
      have f2 : cF I (pj_u I1 2 15 (nI t)) := cF_u (by decide) f1
      generalize pj_u I1 2 15 (nI t) = I2 at hI2 f2
      have cl : t / 64 % A.W.nc < A.W.nc := Nat.mod_lt _ (by omega)
      generalize t / 64 % A.W.nc = c at cl q
      have hL2 : LC A.W 35 A.L I2 := hI2.2.2.1
      rw [nI_clamp (n := c) (by omega), (hL2.2.1 c cl).2]
      refine ⟨pk_in c 8 (by omega), ?_⟩
      cases e : A.L.bur c with
      | true =>
        rw [e, if_pos rfl] at q
        exact ⟨fun z => absurd z (by decide), fun _ => q I2 f2 hI2⟩
      | false =>
        rw [e, if_neg (by decide)] at q
        refine ⟨fun _ => ?_, fun z => absurd rfl z⟩
        have e13 : I2 5 13 = nI A.W.nm := hI2.2.1.1.2.2.2.1
        rw [e13]
        refine s80 (Nat.le_refl 2) h8 hA.2.2.1 hL2 hA.2.2.2.1 cl (fun I3 L3 f3 => kV_i ?_)
        have g3 : ∀ c j, c ≠ 37 → c ≠ 40 → I3 c j = I2 c j := fun c j h1 h2 => f3 c j (by
          show (c == 37 || c == 40) = false
          rw [beq_eq_false_iff_ne.mpr h1, beq_eq_false_iff_ne.mpr h2]; rfl)
        exact q I3 (cF_tr f2 (fun c j hc => g3 c j (by omega) (by omega))) (InvC_L hI2 (fun c j hc _ => g3 c j (by omega) (by omega)) L3)
    · rw [if_pos d] at q
      exact q I1 f1 hI1
/-- PegCoats.chance -/
theorem c144 (hh : 8 ≤ h) {p : Int32} (hA : AV A) (hI : InvC A I) (q : ∀ I', cF I I' → InvC (chanceR A p).1 I' → Q (some (.int (chanceR A p).2)) (zc n, I', J)) : pj_D h 144 [.ref 2, .int p] (zc n, I, J) Q := by
  refine pj_ent (g := 7) hh (t := mt_144) rfl rfl (v144_0 (pj_D_le 7) I J _ ?_)
  unfold chanceR at q
  refine s127 (by decide) (a := 1) (b := 40) hI.2.2.1.1 hA.2.2.2.1.1 (by decide) (by decide) (fun m h1 h2 h3 e => kI_i ⟨fun _ => ?_, fun z => absurd z (by decide)⟩) (fun z => kI_i ⟨fun z => absurd rfl z, fun _ => ?_⟩)
  · subst e
    rw [aw_s h1 h2 h3] at q
    refine c10 (by decide) hA hI (fun I1 f1 hI1 => kV_i ?_)
    have hP := AV_push hA
    suffices loop : ∀ r k I', r + k = m → cF I I' → InvC (chN A.push k).1 I' → pj_R (pj_D 7) ta mc_144 false Q 32 [some (.ref 2), some (.int (nI m)), some (.int (nI (chN A.push k).2)), some (.int (nI k))] [] (zc n) I' J 0 0 from loop m 0 I1 (by omega) f1 hI1
    intro r
    induction r with
    | zero =>
      intro k I' hk hf hI'
      obtain rfl : k = m := by omega
      exact v144_32 (pj_D_le 7) I' J _ _ _ (br_t (nI_le (Nat.le_refl _) (by omega)) (q I' hf hI'))
    | succ r ih =>
      intro k I' hk hf hI'
      have e0 : A.push.L.yr = A.L.yr := rfl
      have v := chN_V hP (k := k) (by omega)
      have b := bu1_V v.1
      refine v144_32 (pj_D_le 7) I' J _ _ _ (br_f (nI_ge (by omega) (by omega)) (c145 (by decide) v.1 hI' (fun I2 f2 hI2 => kI_i ?_)))
      have nx : ∀ I3, cF I I3 → InvC (bu1 (chN A.push k).1).1.yr1 I3 → pj_R (pj_D 7) ta mc_144 false Q 32 [some (.ref 2), some (.int (nI m)), some (.int (nI ((chN A.push k).2 + (bu1 (chN A.push k).1).2))), some (.int (nI (k + 1)))] [] (zc n) I3 J 0 0 := fun I3 f3 hI3 => ih (k + 1) I3 (by omega) f3 hI3
      have hb := b.2.2
      have hy : (bu1 (chN A.push k).1).1.L.yr < 999 := by omega
      have n1 : nI ((chN A.push k).2) + 1 = nI ((chN A.push k).2 + 1) := nI_1 _
      rw [n1, nI_1 k]
      rcases Nat.eq_zero_or_pos (bu1 (chN A.push k).1).2 with z | z
      · rw [z] at nx ⊢
        exact ⟨fun _ => c143 (Nat.le_refl 7) b.1 hI2 hy (fun I3 f3 hI3 _ => kV_i (nx I3 (cF_tr (cF_tr hf f2) f3) hI3)), fun y => absurd rfl y⟩
      · have z1 : (bu1 (chN A.push k).1).2 = 1 := by omega
        rw [z1] at nx ⊢
        exact ⟨fun y => absurd y (by decide), fun _ => c143 (Nat.le_refl 7) b.1 hI2 hy (fun I3 f3 hI3 _ => kV_i (nx I3 (cF_tr (cF_tr hf f2) f3) hI3))⟩
  · rw [aw_n z] at q
    exact c112 (by decide) (k := 2) (by decide) hI (fun I1 f1 hI1 => kI_i (q I1 f1 hI1))
end PA2
