/-! passes: the class -/
/-- a scene of the search: the first layer's men, other coats -/
def sameM (L0 L : Ly) : Prop := L.yr = L0.yr ∧ L.siz = L0.siz ∧ L.age = L0.age ∧ L.the = L0.the ∧ L.bur = L0.bur
/-- the warmths known -/
def KN (W : Wk) (L0 : Ly) (I : Nat → Nat → Int32) : Prop := (∀ c, c < W.nc → I 248 c = nI (L0.lin c)) ∧ ∀ i c s, i < W.nm → c < W.nc → s < 4 → I 249 ((i * 8 + c) * 4 + s) = -2000000 ∨ I 249 ((i * 8 + c) * 4 + s) = iI (wm W (L0.siz i) (L0.age i) L0.yr c (L0.lin c + s))
def mn99 (x : Nat) : Nat := if x < 99 then x else 99
def wmx (W : Wk) (L : Ly) (i : Nat) (o : Option Nat) (e : Nat) : Int := match o with
  | none => 0
  | some c => wm W (L.siz i) (L.age i) L.yr c (mn99 (L.lin c + e))
theorem wmx_0 {W : Wk} {L : Ly} {i : Nat} {o : Option Nat} (h : ∀ c, o = some c → L.lin c ≤ 99) : wmx W L i o 0 = wmo W L i o := by
  cases o with
  | none => rfl
  | some c =>
    have := h c rfl
    show wm W (L.siz i) (L.age i) L.yr c (mn99 (L.lin c)) = wm W (L.siz i) (L.age i) L.yr c (L.lin c)
    have : mn99 (L.lin c) = L.lin c := by unfold mn99; split <;> omega
    rw [this]
theorem chg_wor {L : Ly} {i j k : Nat} : (L.chg i j).wor k = if k = j then L.wor i else if k = i then L.wor j else L.wor k := by
  unfold Ly.chg
  rw [dress_wor, dress_wor]
theorem chg_lin {L : Ly} {i j c : Nat} (hne : L.wor i = none ∨ L.wor i ≠ L.wor j) : (L.chg i j).lin c = if L.wor i = some c ∨ L.wor j = some c then (if L.lin c < 99 then L.lin c + 1 else L.lin c) else L.lin c := by
  unfold Ly.chg
  rw [dress_lin, dress_lin]
  by_cases a : L.wor i = some c
  · have b : ¬ L.wor j = some c := fun z => by
      rcases hne with y | y
      · rw [y] at a; cases a
      · exact y (by rw [a, z])
    rw [if_pos a, if_neg b, if_pos (Or.inl a)]
  · rw [if_neg a]
    by_cases b : L.wor j = some c
    · rw [if_pos b, if_pos (Or.inr b)]
    · rw [if_neg b, if_neg (fun z => z.elim a b)]
theorem wmx_1 {W : Wk} {L : Ly} {i j k : Nat} {o : Option Nat} (hne : L.wor i = none ∨ L.wor i ≠ L.wor j) (ho : o = L.wor i ∨ o = L.wor j) (h : ∀ c, o = some c → L.lin c ≤ 99) : wmx W L k o 1 = wmo W (L.chg i j) k o := by
  cases o with
  | none => rfl
  | some c =>
    have hl := h c rfl
    show wm W (L.siz k) (L.age k) L.yr c (mn99 (L.lin c + 1)) = wm W (L.siz k) (L.age k) L.yr c ((L.chg i j).lin c)
    rw [chg_lin hne, if_pos (by rcases ho with z | z; exact Or.inl z.symm; exact Or.inr z.symm)]
    have : mn99 (L.lin c + 1) = if L.lin c < 99 then L.lin c + 1 else L.lin c := by unfold mn99; split <;> split <;> omega
    rw [this]
section PPs
variable {n h : Nat} {Q : pj_K} {I : Nat → Nat → Int32} {J : Nat → Nat → Int64} {A : Ab}
def pC : Nat → Nat → Bool := fun c _ => c == 16 || c == 17 || c == 241 || c == 245 || c == 249 || c == 250
def nC : Nat → Nat → Bool := fun c _ => c == 16 || c == 17 || c == 249
theorem nC_f {c j : Nat} (h1 : c ≠ 16) (h2 : c ≠ 17) (h3 : c ≠ 249) : nC c j = false := by
  unfold nC
  rw [beq_eq_false_iff_ne.mpr h1, beq_eq_false_iff_ne.mpr h2, beq_eq_false_iff_ne.mpr h3]; rfl
theorem pC_f {c j : Nat} (h1 : c ≠ 16) (h2 : c ≠ 17) (h3 : c ≠ 241) (h4 : c ≠ 245) (h5 : c ≠ 249) (h6 : c ≠ 250) : pC c j = false := by
  unfold pC
  rw [beq_eq_false_iff_ne.mpr h1, beq_eq_false_iff_ne.mpr h2, beq_eq_false_iff_ne.mpr h3, beq_eq_false_iff_ne.mpr h4, beq_eq_false_iff_ne.mpr h5, beq_eq_false_iff_ne.mpr h6]; rfl
theorem nC_p {I' : Nat → Nat → Int32} (h : pj_fr nC I I') : pj_fr pC I I' := pj_fr_w h (fun c j hc => by
  unfold pC at hc
  simp only [Bool.or_eq_false_iff] at hc
  unfold nC
  rw [hc.1.1.1.1.1, hc.1.1.1.1.2, hc.1.2]
  rfl)
theorem cS_n {I' : Nat → Nat → Int32} (h : pj_fr cS I I') : pj_fr nC I I' := pj_fr_w h (fun c j hc => by
  unfold nC at hc
  simp only [Bool.or_eq_false_iff] at hc
  unfold cS
  rw [hc.1.1, hc.1.2]
  rfl)
theorem CW_p {I' : Nat → Nat → Int32} (hf : pj_fr pC I I') (h : CW A.W 5 I) : CW A.W 5 I' := CW_fr (fun c j h1 h2 => hf c j (pC_f (by omega) (by omega) (by omega) (by omega) (by omega) (by omega))) h
theorem LC_n {L : Ly} {I' : Nat → Nat → Int32} (hf : pj_fr nC I I') (h : LC A.W 240 L I) : LC A.W 240 L I' := LC_fr (fun c j h1 h2 => hf c j (nC_f (by omega) (by omega) (by omega))) h
/-- Passing.warmthOf -/
theorem s24 (hh : 4 ≤ h) {L : Ly} {i e : Nat} {o : Option Nat} (hA : AV A) (hW : CW A.W 5 I) (hL : LC A.W 240 L I) (hM : sameM A.L L) (hl : ∀ c, c < A.W.nc → L.lin c ≤ 99) (hK : KN A.W A.L I) (hi : i < A.W.nm) (ho : ∀ c, o = some c → c < A.W.nc) (he : e ≤ 1) (q : ∀ I', pj_fr nC I I' → KN A.W A.L I' → Q (some (.int (iI (wmx A.W L i o e)))) (zc n, I', J)) : pj_D h 24 [.ref 239, .int (nI i), .int (wo o), .int (nI e)] (zc n, I, J) Q := by
  have h7 := hA.2.2.1
  have h8 := hA.2.1
  have hV := hA.2.2.2.1
  refine pj_ent (g := 3) hh (t := mt_24) rfl rfl (w24_0 (pj_D_le 3) I J _ _ _ ?_)
  cases o with
  | none => exact ⟨fun z => absurd rfl z, fun _ => q I pj_fr_rf hK⟩
  | some c =>
    have hc := ho c rfl
    have lc := hl c hc
    have l0 := hV.2.1 c hc
    have v := hV.2.2.1 i hi
    have y0 := hV.1
    obtain ⟨m1, m2, m3, m4, m5⟩ := hM
    have i8 := pk_in (x := nI c) c 8 (by omega)
    have i7 := pk_in (x := nI i) i 7 (by omega)
    have r := hL.2.2 i hi
    refine ⟨fun _ => ⟨i8, ?_⟩, fun z => ?_⟩
    rotate_left
    · have := (wo_none (o := some c) (fun c' e' => by cases e'; omega)).mp z
      cases this
    have ew : (wo (some c)).toNatClampNeg = c := nI_clamp (n := c) (by omega)
    have em : (if nI (L.lin c) + nI e < 99 then nI (L.lin c) + nI e else 99) = nI (mn99 (L.lin c + e)) := by
      rw [nI_add]
      exact mn_i (b := 99) (by omega) (by decide)
    rw [ew, (hL.2.1 c hc).1, em]
    have xb : mn99 (L.lin c + e) ≤ 99 := by unfold mn99; split <;> omega
    have qv : ∀ I', pj_fr nC I I' → KN A.W A.L I' → Q (some (.int (iI (wm A.W (L.siz i) (L.age i) L.yr c (mn99 (L.lin c + e)))))) (zc n, I', J) := q
    generalize mn99 (L.lin c + e) = x at xb qv
    rw [m2, m3, m1] at qv
    have r47 : pj_R (pj_D 3) ta mc_24 false Q 47 [some (.ref 239), some (.int (nI i)), some (.int (nI c)), none, some (.int (nI x)), none, none] [] (zc n) I J 0 0 := by
      refine w24_47 (pj_D_le 3) I J _ _ _ ?_
      rw [nI_clamp (n := i) (by omega), r.1, r.2.1, hL.1, m2, m3, m1]
      refine ⟨i7, i7, s105 (Nat.le_refl 3) hW hA.1 hc (by omega) (by omega) (by omega) (by omega) (fun I1 f1 => kI_i (qv I1 (cS_n f1) ⟨fun d hd => (f1 _ _ rfl).trans (hK.1 d hd), fun a b s h1 h2 h3 => ?_⟩))⟩
      rw [f1 249 _ rfl]
      exact hK.2 a b s h1 h2 h3
    refine w24_25 (pj_D_le 3) I J _ _ _ ?_
    show vp_in (nI c) 8 ∧ (nI x - I 248 (nI c).toNatClampNeg < 0 → pj_R (pj_D 3) ta mc_24 false Q 47 [some (.ref 239), some (.int (nI i)), some (.int (nI c)), none, some (.int (nI x)), none, none] [] (zc n) I J 0 0) ∧ (¬ nI x - I 248 (nI c).toNatClampNeg < 0 → pj_R (pj_D 3) ta mc_24 false Q 41 [some (.ref 239), some (.int (nI i)), some (.int (nI c)), none, some (.int (nI x)), some (.int (nI x - I 248 (nI c).toNatClampNeg)), none] [] (zc n) I J 0 0)
    rw [nI_clamp (n := c) (by omega), hK.1 c hc]
    refine ⟨i8, fun _ => r47, fun d => ?_⟩
    have d2 : A.L.lin c ≤ x := by
      rcases Nat.lt_or_ge x (A.L.lin c) with z | z
      · exact absurd (pk_sneg (by omega) z) d
      · exact z
    rw [pk_sub d2]
    refine w24_41 (pj_D_le 3) I J _ _ _ _ (pk_lt (x - A.L.lin c) 4 (fun d4 => ?_) (fun _ => r47))
    refine w24_83 (pj_D_le 3) I J _ _ _ _ ?_
    have ek : (nI i * 8 + nI c) * 4 + nI (x - A.L.lin c) = nI ((i * 8 + c) * 4 + (x - A.L.lin c)) := by
      show (nI i * nI 8 + nI c) * nI 4 + nI (x - A.L.lin c) = _
      rw [pk_mul, nI_add, pk_mul, nI_add]
    rw [ek]
    have kb : (i * 8 + c) * 4 + (x - A.L.lin c) < 224 := by omega
    have ik := pk_in (x := nI ((i * 8 + c) * 4 + (x - A.L.lin c))) ((i * 8 + c) * 4 + (x - A.L.lin c)) 224 kb
    have hk := hK.2 i c (x - A.L.lin c) hi hc d4
    rw [show A.L.lin c + (x - A.L.lin c) = x by omega] at hk
    have gb : GB (wm A.W (A.L.siz i) (A.L.age i) A.L.yr c x) := wm_b hA.1 hc (by omega) (by omega) (by omega) (by omega)
    have nm : ¬ iI (wm A.W (A.L.siz i) (A.L.age i) A.L.yr c x) = -2000000 := fun z => by
      have := (iI_eq (b := -2000000) gb.i ⟨by decide, by decide⟩).mp (z.trans (by decide))
      have := gb.1
      omega
    refine w24_96 (pj_D_le 3) I J _ _ _ _ ?_
    rw [nI_clamp (n := (i * 8 + c) * 4 + (x - A.L.lin c)) (by omega)]
    refine ⟨ik, fun z => ?_, fun z => ?_⟩
    · have e1 := hk.resolve_left z
      refine w24_150 (pj_D_le 3) I J _ ?_
      rw [nI_clamp (n := (i * 8 + c) * 4 + (x - A.L.lin c)) (by omega), e1]
      exact ⟨ik, qv I pj_fr_rf hK⟩
    · rw [nI_clamp (n := i) (by omega), r.1, r.2.1, hL.1, m2, m3, m1]
      refine ⟨i7, i7, s105 (Nat.le_refl 3) hW hA.1 hc (by omega) (by omega) (by omega) (by omega) (fun I1 f1 => kI_i ⟨ik, ?_⟩)⟩
      refine w24_150 (pj_D_le 3) _ J _ ?_
      rw [nI_clamp (n := (i * 8 + c) * 4 + (x - A.L.lin c)) (by omega), pj_u_e]
      refine ⟨ik, qv _ (pj_fr_u (cS_n f1) rfl) ⟨fun d hd => (pj_u_n (by decide)).trans ((f1 _ _ rfl).trans (hK.1 d hd)), fun a b s h1 h2 h3 => ?_⟩⟩
      by_cases y : (a * 8 + b) * 4 + s = (i * 8 + c) * 4 + (x - A.L.lin c)
      · right
        have ea : a = i := by omega
        have eb : b = c := by omega
        have es : s = x - A.L.lin c := by omega
        rw [y, pj_u_e, ea, eb, es, show A.L.lin c + (x - A.L.lin c) = x by omega]
      · rw [pj_u_j y, f1 249 _ rfl]
        exact hK.2 a b s h1 h2 h3
/-- Passing.nobodyColder -/
theorem s23 (hh : 5 ≤ h) {L : Ly} {i j : Nat} (hA : AV A) (hW : CW A.W 5 I) (hL : LC A.W 240 L I) (hM : sameM A.L L) (hV : LV A.W L) (hK : KN A.W A.L I) (hi : i < A.W.nm) (hj : j < A.W.nm) (hij : i ≠ j) (q : ∀ I', pj_fr nC I I' → KN A.W A.L I' → Q (some (.int (bi (wel A.W L i j)))) (zc n, I', J)) : pj_D h 23 [.ref 239, .int (nI i), .int (nI j)] (zc n, I, J) Q := by
  have h7 := hA.2.2.1
  have h8 := hA.2.1
  have hl := hV.2.1
  have wi : ∀ c, L.wor i = some c → c < A.W.nc := fun c e => LV_c hV hi e
  have wj : ∀ c, L.wor j = some c → c < A.W.nc := fun c e => LV_c hV hj e
  have hne : L.wor i = none ∨ L.wor i ≠ L.wor j := by
    cases e : L.wor i with
    | none => exact Or.inl rfl
    | some c => exact Or.inr (fun z => hij (hV.2.2.2.2 i j c hi hj e z.symm))
  have e10 := wmx_0 (W := A.W) (i := i) (fun c e => hl c (wi c e))
  have e20 := wmx_0 (W := A.W) (i := j) (fun c e => hl c (wj c e))
  have e11 := wmx_1 (W := A.W) (k := i) hne (Or.inr rfl) (fun c e => hl c (wj c e))
  have e21 := wmx_1 (W := A.W) (k := j) hne (Or.inl rfl) (fun c e => hl c (wi c e))
  have gbx : ∀ k o x, k < A.W.nm → (∀ c, o = some c → c < A.W.nc) → x ≤ 1 → GB (wmx A.W L k o x) := fun k o x hk hok hx => by
    cases o with
    | none => exact ⟨by show (-1000000 : Int) ≤ 0; decide, by show (0 : Int) ≤ 1000000; decide⟩
    | some c =>
      have := hl c (hok c rfl)
      have v := hV.2.2.1 k hk
      have y := hV.1
      exact wm_b hA.1 (hok c rfl) (by omega) (by omega) (by omega) (by unfold mn99; split <;> omega)
  refine pj_ent (g := 4) hh (t := mt_23) rfl rfl (v23_0 (pj_D_le 4) I J _ _ ?_)
  have ii := pk_in (x := nI i) i 7 (by omega)
  have ij := pk_in (x := nI j) j 7 (by omega)
  have ri := hL.2.2 i hi
  have rj := hL.2.2 j hj
  rw [nI_clamp (n := i) (by omega), nI_clamp (n := j) (by omega), ri.2.2.2.2, ri.2.2.1, rj.2.2.1]
  refine ⟨ii, ij, ii, ?_⟩
  unfold wel at q
  cases t1 : L.the i with
  | false =>
    rw [t1] at q
    simp only [Bool.false_and] at q
    exact ⟨fun _ => q I pj_fr_rf hK, fun z => absurd rfl z⟩
  | true =>
    rw [t1, Bool.true_and] at q
    refine ⟨fun z => absurd z (by decide), fun _ => ?_⟩
    refine v23_33 (pj_D_le 4) I J _ _ _ _ ?_
    rw [nI_clamp (n := j) (by omega), rj.2.2.2.2]
    refine ⟨ij, ?_⟩
    cases t2 : L.the j with
    | false =>
      rw [t2] at q
      simp only [Bool.false_and] at q
      exact ⟨fun _ => q I pj_fr_rf hK, fun z => absurd rfl z⟩
    | true =>
      rw [t2, Bool.true_and] at q
      refine ⟨fun z => absurd z (by decide), fun _ => ?_⟩
      have r58 : ((L.wor i).isNone && (L.wor j).isNone) = false → pj_R (pj_D 4) ta mc_23 true Q 58 [some (.ref 239), some (.int (nI i)), some (.int (nI j)), some (.int (wo (L.wor i))), some (.int (wo (L.wor j)))] [] (zc n) I J 0 0 := by
        intro hz
        rw [hz, Bool.not_false, Bool.true_and] at q
        refine v23_58 (pj_D_le 4) I J _ _ _ _ ?_
        refine s24 (Nat.le_refl 4) (e := 1) hA hW hL hM hl hK hi wj (by decide) (fun I1 f1 k1 => kI_i ?_)
        refine s24 (Nat.le_refl 4) (e := 0) hA (CW_p (nC_p f1) hW) (LC_n f1 hL) hM hl k1 hi wi (by decide) (fun I2 f2 k2 => kI_i ?_)
        have f2' := pj_fr_tr f1 f2
        rw [iI_lt (gbx i _ 1 hi wj (by decide)).i (gbx i _ 0 hi wi (by decide)).i, e11, e10]
        by_cases c1 : wmo A.W L i (L.wor i) ≤ wmo A.W (L.chg i j) i (L.wor j)
        · rw [decide_eq_true c1, Bool.true_and] at q
          refine ⟨fun z => absurd c1 (by omega), fun _ => ?_⟩
          refine s24 (Nat.le_refl 4) (e := 1) hA (CW_p (nC_p f2') hW) (LC_n f2' hL) hM hl k2 hj wi (by decide) (fun I3 f3 k3 => kI_i ?_)
          have f3' := pj_fr_tr f2' f3
          refine s24 (Nat.le_refl 4) (e := 0) hA (CW_p (nC_p f3') hW) (LC_n f3' hL) hM hl k3 hj wj (by decide) (fun I4 f4 k4 => kI_i ?_)
          have f4' := pj_fr_tr f3' f4
          have q := q I4 f4' k4
          rw [iI_lt (gbx j _ 1 hj wi (by decide)).i (gbx j _ 0 hj wj (by decide)).i, e21, e20]
          by_cases c2 : wmo A.W L j (L.wor j) ≤ wmo A.W (L.chg i j) j (L.wor i)
          · rw [decide_eq_true c2] at q
            exact ⟨fun z => absurd c2 (by omega), fun _ => v23_94 (pj_D_le 4) I4 J q⟩
          · rw [decide_eq_false c2] at q
            exact ⟨fun _ => q, fun z => absurd (by omega) z⟩
        · rw [decide_eq_false c1, Bool.false_and] at q
          exact ⟨fun _ => q I2 f2' k2, fun z => absurd (by omega) z⟩
      cases e1 : L.wor i with
      | some c =>
        rw [e1] at r58
        have hc := wi c e1
        refine ⟨fun _ => r58 rfl, fun z => ?_⟩
        have := (wo_none (o := some c) (fun c' e' => by cases e'; omega)).mp z
        cases this
      | none =>
        refine ⟨fun z => absurd rfl z, fun _ => ?_⟩
        cases e2 : L.wor j with
        | some c =>
          rw [e1, e2] at r58
          have hc := wj c e2
          refine ⟨fun _ => r58 rfl, fun z => ?_⟩
          have := (wo_none (o := some c) (fun c' e' => by cases e'; omega)).mp z
          cases this
        | none =>
          rw [e1, e2] at q
          exact ⟨fun z => absurd rfl z, fun _ => q I pj_fr_rf hK⟩
end PPs
