/-! feed, end, seed; image -/
theorem byv_n (x : Int32) (j : Nat) : byv x j = nI (byv x j).toNatClampNeg ∧ (byv x j).toNatClampNeg < 256 := by
  obtain ⟨k, hk, e⟩ := pk_andE (x >>> (nI (24 - 8 * j) &&& 31)) (m := 255) 8 (by decide)
  have e2 : byv x j = nI k := e
  rw [e2, nI_clamp (by omega)]
  exact ⟨rfl, hk⟩
section PIm
variable {n h : Nat} {Q : pj_K} {I I' : Nat → Nat → Int32} {J : Nat → Nat → Int64} {A : Ab}
/-- PegCoats.feed -/
theorem c111 (hh : 2 ≤ h) {p : Nat → Int32} (hI : InvC A I) (q : ∀ I', cF I I' → InvC (feedR A p).1 I' → Q (some (.int (feedR A p).2)) (zc n, I', J)) : pj_D h 111 [.ref 2, .int (p 0), .int (p 1), .int (p 2), .int (p 3), .int (p 4)] (zc n, I, J) Q := by
  obtain ⟨t1, t2, t3⟩ := hI.1
  unfold feedR at q
  refine s111 hh t2 t1 (fun hl I1 hd => ?_) (fun hl => ?_)
  · rw [if_pos hl] at q
    obtain ⟨d1, d2, d3, d4⟩ := hd
    have fr : ∀ c j, c ≠ 3 → c ≠ 4 → I1 c j = I c j := fun c j h1 h2 => d4 c j (by unfold fdS; rw [beq_eq_false_iff_ne.mpr h2, beq_eq_false_iff_ne.mpr h1]; rfl)
    refine q I1 (fun c j hc => fr c j (by omega) (by omega)) (InvC_tp hI (fun c j h1 h2 _ => fr c j h1 h2) ⟨hl, d1, fun k hk => ?_⟩)
    have hk : k < A.tp.1 + 20 := hk
    show _ = nI (if k < A.tp.1 then A.tp.2 k else (b5 p (k - A.tp.1)).toNatClampNeg) ∧ (if k < A.tp.1 then A.tp.2 k else (b5 p (k - A.tp.1)).toNatClampNeg) < 256
    by_cases c : k < A.tp.1
    · rw [if_pos c, d3 k c]; exact t3 k c
    · rw [if_neg c]
      have := d2 (k - A.tp.1) (by omega)
      rw [show A.tp.1 + (k - A.tp.1) = k by omega] at this
      rw [this]
      exact byv_n _ _
  · rw [if_neg hl] at q
    exact q _ (cF_u (by decide) (fun _ _ _ => rfl)) (InvC_rf (by decide) hI)
theorem m159 (hh : 2 ≤ h) {p : Nat → Int32} (hA : AV A) (hI : InvM A I J) (q : ∀ I' J', mF I I' → InvM (feedR A p).1 I' J' → Q (some (.int (feedR A p).2)) (zc n, I', J')) : pj_D h 159 [.ref 276, .int (p 0), .int (p 1), .int (p 2), .int (p 3), .int (p 4)] (zc n, I, J) Q := by
  obtain ⟨t1, t2, t3⟩ := hI.1
  unfold feedR at q
  refine s159 hh t2 t1 (fun hl I1 hd => ?_) (fun hl => ?_)
  · rw [if_pos hl] at q
    obtain ⟨d1, d2, d3, d4⟩ := hd
    have fr : ∀ c j, c ≠ 277 → (c ≠ 276 ∨ j ≠ 1) → I1 c j = I c j := fun c j h1 h2 => d4 c j (by
      unfold fdS
      have e : (c == 276 && j == 1) = false := by
        rw [Bool.and_eq_false_iff, beq_eq_false_iff_ne, beq_eq_false_iff_ne]; exact h2
      rw [e, beq_eq_false_iff_ne.mpr h1]; rfl)
    refine q I1 J (fun c j hc => fr c j (by omega) (by omega)) (InvM_tp hA hI (fun c j h1 h2 _ => fr c j h1 h2) ⟨hl, d1, fun k hk => ?_⟩)
    have hk : k < A.tp.1 + 20 := hk
    show _ = nI (if k < A.tp.1 then A.tp.2 k else (b5 p (k - A.tp.1)).toNatClampNeg) ∧ (if k < A.tp.1 then A.tp.2 k else (b5 p (k - A.tp.1)).toNatClampNeg) < 256
    by_cases c : k < A.tp.1
    · rw [if_pos c, d3 k c]; exact t3 k c
    · rw [if_neg c]
      have := d2 (k - A.tp.1) (by omega)
      rw [show A.tp.1 + (k - A.tp.1) = k by omega] at this
      rw [this]
      exact byv_n _ _
  · rw [if_neg hl] at q
    exact q _ J (mF_u (by decide) (fun _ _ _ => rfl)) (InvM_rf hA (by decide) hI)
/-- PegCoats.end -/
theorem end_c {L : Nat} {p : Int32} (hL : L ≤ 1600) : (∃ m, m ≤ L ∧ p = nI m ∧ (¬ p < 0 ∧ p ≤ nI L)) ∨ ¬ (¬ p < 0 ∧ p ≤ nI L) := by
  by_cases c : ¬ p < 0 ∧ p ≤ nI L
  · left
    obtain ⟨m, hm, rfl⟩ := nI_of c.1
    exact ⟨m, (nI_leI hm (by omega)).mp c.2, rfl, c⟩
  · exact Or.inr c
theorem c113 (hh : 2 ≤ h) {p : Int32} (hI : InvC A I) (q : ∀ I', cF I I' → InvC (endR A p).1 I' → Q (some (.int (endR A p).2)) (zc n, I', J)) : pj_D h 113 [.ref 2, .int p] (zc n, I, J) Q := by
  obtain ⟨t1, t2, t3⟩ := hI.1
  unfold endR at q
  refine s113 hh t2 t1 (fun m hm e => ?_) (fun z => ?_)
  · subst e
    rw [if_pos ⟨nI_pos (by omega), nI_le hm (by omega)⟩, nI_clamp (by omega)] at q
    exact q _ (cF_u (by decide) (fun _ _ _ => rfl)) (InvC_tp hI (fun c j h1 h2 _ => pj_u_n h1) ⟨Nat.le_trans hm t1, pj_u_e, fun k hk => ⟨(pj_u_n (by decide)).trans (t3 k (Nat.lt_of_lt_of_le hk hm)).1, (t3 k (Nat.lt_of_lt_of_le hk hm)).2⟩⟩)
  · rw [if_neg (fun y => z.elim y.1 (fun x => x y.2))] at q
    exact q _ (cF_u (by decide) (fun _ _ _ => rfl)) (InvC_rf (by decide) hI)
theorem m162 (hh : 2 ≤ h) {p : Int32} (hA : AV A) (hI : InvM A I J) (q : ∀ I' J', mF I I' → InvM (endR A p).1 I' J' → Q (some (.int (endR A p).2)) (zc n, I', J')) : pj_D h 162 [.ref 276, .int p] (zc n, I, J) Q := by
  obtain ⟨t1, t2, t3⟩ := hI.1
  unfold endR at q
  refine s162 hh t2 t1 (fun m hm e => ?_) (fun z => ?_)
  · subst e
    rw [if_pos ⟨nI_pos (by omega), nI_le hm (by omega)⟩, nI_clamp (by omega)] at q
    refine q _ J (mF_u (by decide) (fun _ _ _ => rfl)) (InvM_tp hA hI (fun c j h1 h2 _ => ?_) ⟨Nat.le_trans hm t1, pj_u_e, fun k hk => ⟨(pj_u_n (by decide)).trans (t3 k (Nat.lt_of_lt_of_le hk hm)).1, (t3 k (Nat.lt_of_lt_of_le hk hm)).2⟩⟩)
    rcases h2 with y | y
    · exact pj_u_n y
    · exact pj_u_j y
  · rw [if_neg (fun y => z.elim y.1 (fun x => x y.2))] at q
    exact q _ J (mF_u (by decide) (fun _ _ _ => rfl)) (InvM_rf hA (by decide) hI)
/-- PegCoats.seed -/
theorem c152 (hh : 2 ≤ h) {p : Int32} (hI : InvC A I) (q : ∀ I', cF I I' → InvC (seedR A p).1 I' → Q (some (.int (seedR A p).2)) (zc n, I', J)) : pj_D h 152 [.ref 2, .int p] (zc n, I, J) Q := by
  unfold seedR at q
  refine s152 hh (fun z => ?_) (fun z => ?_)
  · rw [if_pos z] at q
    obtain ⟨j, hj, rfl⟩ := nI_of (x := p) (fun c => absurd (Int32.lt_of_le_of_lt z c) (by decide))
    rw [nI_clamp hj] at q
    exact q _ (cF_u (by decide) (fun _ _ _ => rfl)) (InvC_sd hI)
  · rw [if_neg z] at q
    exact q _ (cF_u (by decide) (fun _ _ _ => rfl)) (InvC_rf (by decide) hI)
theorem m257 (hh : 2 ≤ h) {p : Int32} (hA : AV A) (hI : InvM A I J) (q : ∀ I' J', mF I I' → InvM (seedR A p).1 I' J' → Q (some (.int (seedR A p).2)) (zc n, I', J')) : pj_D h 257 [.ref 276, .int p] (zc n, I, J) Q := by
  unfold seedR at q
  refine s257 hh (fun z => ?_) (fun z => ?_)
  · rw [if_pos z] at q
    obtain ⟨j, hj, rfl⟩ := nI_of (x := p) (fun c => absurd (Int32.lt_of_le_of_lt z c) (by decide))
    rw [nI_clamp hj] at q
    rw [nI_l hj]
    exact q _ _ (fun _ _ _ => rfl) (InvM_sd hI)
  · rw [if_neg z] at q
    exact q _ J (mF_u (by decide) (fun _ _ _ => rfl)) (InvM_rf hA (by decide) hI)
end PIm
/-- bytes written so far -/
def PW (l : List Nat) (I : Nat → Nat → Int32) : Prop := I 272 2 = nI l.length ∧ ∀ i, i < l.length → I 273 i = nI (l.getD i 0)
def PO (l : List Nat) (I : Nat → Nat → Int32) : Prop := I 276 66 = nI l.length ∧ ∀ i, i < l.length → I 318 i = nI (l.getD i 0)
theorem getD_app {l : List Nat} {b i : Nat} : (l ++ [b]).getD i 0 = if i < l.length then l.getD i 0 else if i = l.length then b else 0 := by
  rw [List.getD_eq_getElem?_getD, List.getD_eq_getElem?_getD]
  by_cases c : i < l.length
  · rw [if_pos c, List.getElem?_append_left c]
  · rw [if_neg c, List.getElem?_append_right (by omega)]
    by_cases d : i = l.length
    · rw [if_pos d, d, Nat.sub_self]; rfl
    · rw [if_neg d, List.getElem?_eq_none (by simp only [List.length_singleton]; omega)]; rfl
theorem app_len {l : List Nat} {b : Nat} : (l ++ [b]).length = l.length + 1 := by simp
def cby (L : Ly) : Nat → List Nat
  | 0 => ([] ++ [L.yr / 256]) ++ [L.yr % 256]
  | k + 1 => (cby L k ++ [(L.bur k).toNat]) ++ [L.lin k]
def mby (W : Wk) (L : Ly) : Nat → List Nat
  | 0 => cby L W.nc
  | k + 1 => (((((mby W L k ++ [L.siz k]) ++ [L.age k]) ++ [(L.wor k).getD 255]) ++ [L.pur k / 256]) ++ [L.pur k % 256]) ++ [(L.the k).toNat]
theorem cby_len {L : Ly} : ∀ {k : Nat}, (cby L k).length = 2 + 2 * k
  | 0 => rfl
  | k + 1 => by
    unfold cby
    rw [app_len, app_len, cby_len (k := k)]
    omega
theorem mby_len {W : Wk} {L : Ly} : ∀ {k : Nat}, (mby W L k).length = 2 + 2 * W.nc + 6 * k
  | 0 => cby_len
  | k + 1 => by
    unfold mby
    rw [app_len, app_len, app_len, app_len, app_len, app_len, mby_len (k := k)]
    omega
def bys (l : List Nat) : Prop := ∀ i, l.getD i 0 < 256
theorem bys_app {l : List Nat} {b : Nat} (h : bys l) (hb : b < 256) : bys (l ++ [b]) := fun i => by
  rw [getD_app]
  split
  · exact h i
  · split
    · exact hb
    · decide
theorem bys_c {W : Wk} {L : Ly} (hV : LV W L) : ∀ {k : Nat}, k ≤ W.nc → bys (cby L k)
  | 0, _ => bys_app (bys_app (fun i => by simp) (by have := hV.1; omega)) (Nat.mod_lt _ (by decide))
  | k + 1, hk => bys_app (bys_app (bys_c hV (k := k) (by omega)) (by cases L.bur k <;> decide)) (by have := hV.2.1 k (by omega); omega)
theorem bys_m {W : Wk} {L : Ly} (h8 : W.nc ≤ 8) (hV : LV W L) : ∀ {k : Nat}, k ≤ W.nm → bys (mby W L k)
  | 0, _ => bys_c hV (Nat.le_refl _)
  | k + 1, hk => by
    have v := hV.2.2.1 k (by omega)
    refine bys_app (bys_app (bys_app (bys_app (bys_app (bys_app (bys_m h8 hV (k := k) (by omega)) (by omega)) (by omega)) ?_) (by omega)) (Nat.mod_lt _ (by decide))) (by cases L.the k <;> decide)
    cases e : L.wor k with
    | none => decide
    | some c =>
      have := LV_c hV (by omega) e
      show c < 256
      omega
def imgL (W : Wk) (L : Ly) : List Nat := mby W L W.nm ++ [chk (fun i => (mby W L W.nm).getD i 0) (2 + 2 * W.nc + 6 * W.nm)]
def imageR (A : Ab) : Ab × Int32 := (A.sP (2 + 2 * A.W.nc + 6 * A.W.nm + 1, fun i => (imgL A.W A.L).getD i 0), nI (2 + 2 * A.W.nc + 6 * A.W.nm + 1))
theorem AV_imageR {A : Ab} (hA : AV A) : AV (imageR A).1 := by
  have b := bys_app (bys_m hA.2.1 hA.2.2.2.1 (Nat.le_refl _)) (show chk (fun i => (mby A.W A.L A.W.nm).getD i 0) (2 + 2 * A.W.nc + 6 * A.W.nm) < 256 from Nat.lt_trans (chk_lt _ _) (by decide))
  obtain ⟨h1, h2, h3, h4, h5, h6, h7, h8, h9, h10, h11, h12, h13, h14⟩ := hA
  exact ⟨h1, h2, h3, h4, h5, h6, h7, h8, h9, h10, h11, h12, by show 2 + 2 * A.W.nc + 6 * A.W.nm + 1 ≤ 61; omega, fun i _ => b i⟩
section PI2
variable {n h : Nat} {Q : pj_K} {I I' : Nat → Nat → Int32} {J : Nat → Nat → Int64} {A : Ab}
def pS : Nat → Nat → Bool := fun c _ => c == 272 || c == 273
theorem s30w (hh : 1 ≤ h) {l : List Nat} {b : Nat} (hP : PW l I) (hl : l.length < 61) (q : ∀ I', pj_fr pS I I' → PW (l ++ [b]) I' → Q none (zc n, I', J)) : pj_D h 30 [.ref 272, .int (nI b)] (zc n, I, J) Q := by
  refine s30 hh hP.1 hl (q _ (pj_fr_u (pj_fr_u pj_fr_rf rfl) rfl) ⟨?_, fun i hi => ?_⟩)
  · rw [pj_u_e, app_len]
  · rw [app_len] at hi
    rw [pj_u_n (by decide), getD_app]
    by_cases c : i < l.length
    · rw [if_pos c, pj_u_j (by omega)]; exact hP.2 i c
    · obtain rfl : i = l.length := by omega
      rw [if_neg c, if_pos rfl, pj_u_e]
def oS : Nat → Nat → Bool := fun c j => c == 318 || (c == 276 && j == 66)
theorem s260w (hh : 1 ≤ h) {l : List Nat} {b : Nat} {p : Int32} (hP : PO l I) (hl : l.length < 70) (hp : p &&& 255 = nI b) (q : ∀ I', pj_fr oS I I' → PO (l ++ [b]) I' → Q none (zc n, I', J)) : pj_D h 260 [.ref 276, .int p] (zc n, I, J) Q := by
  refine s260 hh hP.1 hl hp (q _ (pj_fr_u (pj_fr_u pj_fr_rf rfl) rfl) ⟨?_, fun i hi => ?_⟩)
  · rw [pj_u_e, app_len]
  · rw [app_len] at hi
    rw [pj_u_n (by decide), getD_app]
    by_cases c : i < l.length
    · rw [if_pos c, pj_u_j (by omega)]; exact hP.2 i c
    · obtain rfl : i = l.length := by omega
      rw [if_neg c, if_pos rfl, pj_u_e]
theorem InvC_p (hf : pj_fr pS I I') (h : InvC A I) : CW A.W 5 I' ∧ LC A.W 35 A.L I' := by
  have f : ∀ c j, c ≠ 272 → c ≠ 273 → I' c j = I c j := fun c j h1 h2 => hf c j (by unfold pS; rw [beq_eq_false_iff_ne.mpr h1, beq_eq_false_iff_ne.mpr h2]; rfl)
  exact ⟨CW_fr (fun c j _ _ => f c j (by omega) (by omega)) h.2.1, LC_fr (fun c j _ _ => f c j (by omega) (by omega)) h.2.2.1⟩
theorem sh8 {y : Nat} (hy : y < 2 ^ 31) : nI y >>> ((8 : Int32) &&& 31) = nI (y / 256) := pk_shrN hy _ 8 (by decide)
theorem an8 {y : Nat} (hy : y < 2 ^ 31) : nI y &&& 255 = nI (y % 256) := pk_andN (by omega) (m := 255) 8 (by decide)
/-- Picture.draw -/
theorem c29 (hh : 2 ≤ h) (hA : AV A) (hI : InvC A I) (q : ∀ I', pj_fr pS I I' → PW (imgL A.W A.L) I' → Q none (zc n, I', J)) : pj_D h 29 [.ref 272, .ref 35] (zc n, I, J) Q := by
  have h7 := hA.2.2.1
  have h8 := hA.2.1
  have hV := hA.2.2.2.1
  have hy := hV.1
  refine pj_ent (g := 1) hh (t := mt_29) rfl rfl (v29_0 (pj_D_le 1) I J ?_)
  have p0 : PW [] (pj_u I 272 2 0) := ⟨pj_u_e, fun i hi => by cases hi⟩
  rw [hI.2.2.1.1, sh8 (by omega)]
  refine s30w (Nat.le_refl 1) p0 (by decide) (fun I1 f1 p1 => kV_i ?_)
  have f1 : pj_fr pS I I1 := pj_fr_tr (pj_fr_u pj_fr_rf rfl) f1
  rw [(InvC_p f1 hI).2.1, an8 (by omega)]
  refine s30w (Nat.le_refl 1) p1 (by rw [app_len]; decide) (fun I2 f2 p2 => kV_i ?_)
  have f2 := pj_fr_tr f1 f2
  have check : ∀ r k I', r + k = 2 + 2 * A.W.nc + 6 * A.W.nm → pj_fr pS I I' → PW (mby A.W A.L A.W.nm) I' → pj_R (pj_D 1) ta mc_29 false Q 191 [some (.ref 272), none, some (.int (nI (chk (fun i => (mby A.W A.L A.W.nm).getD i 0) k))), some (.int (nI k))] [] (zc n) I' J 0 0 := by
    intro r
    induction r with
    | zero =>
      intro k I' hk hf hP
      obtain rfl : k = 2 + 2 * A.W.nc + 6 * A.W.nm := by omega
      refine v29_191 (pj_D_le 1) I' J _ _ ?_
      rw [hP.1, mby_len]
      exact br_t (nI_le (Nat.le_refl _) (by omega)) (s30w (Nat.le_refl 1) hP (by rw [mby_len]; omega) (fun I3 f3 p3 => kV_i (q I3 (pj_fr_tr hf f3) p3)))
    | succ r ih =>
      intro k I' hk hf hP
      refine v29_191 (pj_D_le 1) I' J _ _ ?_
      rw [hP.1, mby_len, nI_clamp (n := k) (by omega), hP.2 k (by rw [mby_len]; omega), ck_step (chk_lt _ _) (bys_m h8 hV (Nat.le_refl _) k), nI_1]
      exact br_f (nI_ge (by omega) (by omega)) ⟨pk_in k 61 (by omega), ih (k + 1) I' (by omega) hf hP⟩
  have men : ∀ r k I', r + k = A.W.nm → pj_fr pS I I' → PW (mby A.W A.L k) I' → pj_R (pj_D 1) ta mc_29 false Q 77 [some (.ref 272), some (.ref 35), some (.int (nI k)), none] [] (zc n) I' J 0 0 := by
    intro r
    induction r with
    | zero =>
      intro k I' hk hf hP
      obtain rfl : k = A.W.nm := by omega
      refine v29_77 (pj_D_le 1) I' J _ ?_
      rw [(InvC_p hf hI).1.1.2.2.2.1]
      exact br_t (nI_le (Nat.le_refl _) (by omega)) (check (2 + 2 * A.W.nc + 6 * A.W.nm) 0 I' (by omega) hf hP)
    | succ r ih =>
      intro k I' hk hf hP
      have hkm : k < A.W.nm := by omega
      have i7 := pk_in (x := nI k) k 7 (by omega)
      have v := hV.2.2.1 k hkm
      have ml := mby_len (W := A.W) (L := A.L) (k := k)
      have R : ∀ {I' : Nat → Nat → Int32}, pj_fr pS I I' → _ := fun hf => (InvC_p hf hI).2.2.2 k hkm
      refine v29_77 (pj_D_le 1) I' J _ ?_
      rw [(InvC_p hf hI).1.1.2.2.2.1, nI_clamp (n := k) (by omega), (R hf).1, nI_1]
      refine br_f (nI_ge hkm (by omega)) ⟨i7, s30w (Nat.le_refl 1) hP (by omega) (fun I1 f1 p1 => kV_i ⟨i7, ?_⟩)⟩
      have g1 := pj_fr_tr hf f1
      rw [(R g1).2.1]
      refine s30w (Nat.le_refl 1) p1 (by rw [app_len]; omega) (fun I2 f2 p2 => kV_i ⟨i7, ?_⟩)
      have g2 := pj_fr_tr g1 f2
      rw [(R g2).2.2.1]
      have rest : ∀ I3, pj_fr pS I I3 → PW (((mby A.W A.L k ++ [A.L.siz k]) ++ [A.L.age k]) ++ [(A.L.wor k).getD 255]) I3 →
          (vp_in (nI k) 7 ∧ pj_D 1 30 [.ref 272, .int ((I3 41 k) >>> ((8 : Int32) &&& 31))] (zc n, I3, J) (kV n fun I4 J4 => (vp_in (nI k) 7 ∧ pj_D 1 30 [.ref 272, .int ((I4 41 k) &&& 255)] (zc n, I4, J4) (kV n fun I5 J5 => (vp_in (nI k) 7 ∧ ((I5 42 k = 0 → pj_D 1 30 [.ref 272, .int 0] (zc n, I5, J5) (kV n fun I6 J6 => pj_R (pj_D 1) ta mc_29 false Q 77 [some (.ref 272), some (.ref 35), some (.int (nI (k + 1))), none] [] (zc n) I6 J6 0 0)) ∧ (¬ I5 42 k = 0 → pj_D 1 30 [.ref 272, .int 1] (zc n, I5, J5) (kV n fun I7 J7 => pj_R (pj_D 1) ta mc_29 false Q 77 [some (.ref 272), some (.ref 35), some (.int (nI (k + 1))), none] [] (zc n) I7 J7 0 0)))))))) := by
        intro I3 g3 p3
        rw [(R g3).2.2.2.1, sh8 (by omega)]
        refine ⟨i7, s30w (Nat.le_refl 1) p3 (by rw [app_len, app_len, app_len]; omega) (fun I4 f4 p4 => kV_i ⟨i7, ?_⟩)⟩
        have g4 := pj_fr_tr g3 f4
        rw [(R g4).2.2.2.1, an8 (by omega)]
        refine s30w (Nat.le_refl 1) p4 (by rw [app_len, app_len, app_len, app_len]; omega) (fun I5 f5 p5 => kV_i ⟨i7, ?_⟩)
        have g5 := pj_fr_tr g4 f5
        rw [(R g5).2.2.2.2]
        have last : ∀ b, b = (A.L.the k).toNat → pj_D 1 30 [.ref 272, .int (nI b)] (zc n, I5, J) (kV n fun I7 J7 => pj_R (pj_D 1) ta mc_29 false Q 77 [some (.ref 272), some (.ref 35), some (.int (nI (k + 1))), none] [] (zc n) I7 J7 0 0) := fun b hb =>
          s30w (Nat.le_refl 1) p5 (by rw [app_len, app_len, app_len, app_len, app_len]; omega) (fun I6 f6 p6 => kV_i (ih (k + 1) I6 (by omega) (pj_fr_tr g5 f6) (by rw [hb] at p6; exact p6)))
        cases e : A.L.the k with
        | true => exact ⟨fun z => absurd z (by decide), fun _ => last 1 (by rw [e]; rfl)⟩
        | false => exact ⟨fun _ => last 0 (by rw [e]; rfl), fun z => absurd rfl z⟩
      cases e : A.L.wor k with
      | some c =>
        rw [e] at rest
        refine ⟨fun _ => ⟨i7, s30w (Nat.le_refl 1) p2 (by rw [app_len, app_len]; omega) (fun I3 f3 p3 => kV_i (rest I3 (pj_fr_tr g2 f3) p3))⟩, fun z => absurd z (wo_not h8 hV hkm e)⟩
      | none =>
        rw [e] at rest
        exact ⟨fun z => absurd rfl z, fun _ => s30w (Nat.le_refl 1) (b := 255) p2 (by rw [app_len, app_len]; omega) (fun I3 f3 p3 => kV_i (rest I3 (pj_fr_tr g2 f3) p3))⟩
  suffices coats : ∀ r k I', r + k = A.W.nc → pj_fr pS I I' → PW (cby A.L k) I' → pj_R (pj_D 1) ta mc_29 false Q 30 [some (.ref 272), some (.ref 35), some (.int (nI k)), none] [] (zc n) I' J 0 0 from coats A.W.nc 0 I2 (by omega) f2 p2
  intro r
  induction r with
  | zero =>
    intro k I' hk hf hP
    obtain rfl : k = A.W.nc := by omega
    refine v29_30 (pj_D_le 1) I' J _ ?_
    rw [(InvC_p hf hI).1.1.2.2.1]
    exact br_t (nI_le (Nat.le_refl _) (by omega)) (men A.W.nm 0 I' (by omega) hf hP)
  | succ r ih =>
    intro k I' hk hf hP
    have hkc : k < A.W.nc := by omega
    have i8 := pk_in (x := nI k) k 8 (by omega)
    have cl := cby_len (L := A.L) (k := k)
    refine v29_30 (pj_D_le 1) I' J _ ?_
    rw [(InvC_p hf hI).1.1.2.2.1, nI_clamp (n := k) (by omega), ((InvC_p hf hI).2.2.1 k hkc).2, nI_1]
    refine br_f (nI_ge hkc (by omega)) ⟨i8, ?_⟩
    have go : ∀ b, b = (A.L.bur k).toNat → pj_D 1 30 [.ref 272, .int (nI b)] (zc n, I', J) (kV n fun I1 J1 => (vp_in (nI k) 8 ∧ pj_D 1 30 [.ref 272, .int (I1 36 k)] (zc n, I1, J1) (kV n fun I2 J2 => pj_R (pj_D 1) ta mc_29 false Q 30 [some (.ref 272), some (.ref 35), some (.int (nI (k + 1))), none] [] (zc n) I2 J2 0 0))) := fun b hb => by
      refine s30w (Nat.le_refl 1) hP (by omega) (fun I1 f1 p1 => kV_i ⟨i8, ?_⟩)
      have g1 := pj_fr_tr hf f1
      rw [((InvC_p g1 hI).2.2.1 k hkc).1]
      exact s30w (Nat.le_refl 1) p1 (by rw [app_len]; omega) (fun I2 f2 p2 => kV_i (ih (k + 1) I2 (by omega) (pj_fr_tr g1 f2) (by rw [hb] at p2; exact p2)))
    cases e : A.L.bur k with
    | true => exact ⟨fun z => absurd z (by decide), fun _ => go 1 (by rw [e]; rfl)⟩
    | false => exact ⟨fun _ => go 0 (by rw [e]; rfl), fun z => absurd rfl z⟩
theorem imgL_len {W : Wk} {L : Ly} : (imgL W L).length = 2 + 2 * W.nc + 6 * W.nm + 1 := by
  unfold imgL
  rw [app_len, mby_len]
/-- PegCoats.image -/
theorem c154 (hh : 3 ≤ h) (hA : AV A) (hI : InvC A I) (q : ∀ I', cF I I' → InvC (imageR A).1 I' → Q (some (.int (imageR A).2)) (zc n, I', J)) : pj_D h 154 [.ref 2] (zc n, I, J) Q := by
  refine pj_ent (g := 2) hh (t := mt_154) rfl rfl (v154_0 (pj_D_le 2) I J ?_)
  refine c29 (Nat.le_refl 2) hA hI (fun I1 hf hP => kV_i ?_)
  have f : ∀ c j, c ≠ 272 → c ≠ 273 → I1 c j = I c j := fun c j h1 h2 => hf c j (by unfold pS; rw [beq_eq_false_iff_ne.mpr h1, beq_eq_false_iff_ne.mpr h2]; rfl)
  have e : I1 272 2 = nI (2 + 2 * A.W.nc + 6 * A.W.nm + 1) := hP.1.trans (by rw [imgL_len])
  rw [e]
  exact q I1 (fun c j hc => f c j (by omega) (by omega)) (InvC_ex hI rfl (Or.inl ⟨rfl, fun c j hc => f c j (by omega) (by omega)⟩) (fun c j h1 h2 => f c j (by omega) (by omega)) (Or.inl ⟨rfl, fun c j h1 h2 => f c j (by omega) (by omega), f _ _ (by decide) (by decide)⟩) (Or.inl ⟨rfl, f _ _ (by decide) (by decide), fun j => f _ _ (by decide) (by decide)⟩) (Or.inl ⟨rfl, fun c j hc => f c j (by omega) (by omega)⟩) (Or.inl ⟨rfl, fun j => f _ _ (by decide) (by decide)⟩) (Or.inl ⟨rfl, f _ _ (by decide) (by decide)⟩) (Or.inl ⟨rfl, f _ _ (by decide) (by decide), f _ _ (by decide) (by decide)⟩) (Or.inl ⟨rfl, f _ _ (by decide) (by decide), fun j => f _ _ (by decide) (by decide)⟩) (Or.inr ⟨e, fun i hi => hP.2 i (by rw [imgL_len]; exact hi)⟩) (fun j => f _ _ (by decide) (by decide)))
end PI2
