/-! had, tells: the class -/
theorem z261 : ∀ ch, ch < 9 → zR 261 ch = some (262 + ch) ∧ Nat.beq (zK (262 + ch)) 13 = true := by decide +kernel
theorem z261L (n : Nat) : ∀ ch, ch < 9 → zL n (262 + ch) = 31 := by
  intro ch h
  obtain rfl | rfl | rfl | rfl | rfl | rfl | rfl | rfl | rfl : ch = 0 ∨ ch = 1 ∨ ch = 2 ∨ ch = 3 ∨ ch = 4 ∨ ch = 5 ∨ ch = 6 ∨ ch = 7 ∨ ch = 8 := by omega
  all_goals rfl
theorem sh_4 : ∀ k, k < 8 → ((4 * nI k &&& 31 : Int32).toBitVec.smod 32).toNat = 4 * k := by decide +kernel
theorem p16 (k : Nat) : 16 ^ k = 2 ^ (4 * k) := by rw [Nat.pow_mul]
/-- the rows seen go with a choice, as far as the years known -/
def rokY (A : Ab) (m y ch i : Nat) : Bool := decide ((A.rw.2 i).1 ≤ y) && decide ((scn A.W A.L m ch (A.rw.2 i).1).wor (A.rw.2 i).2.1 = (A.rw.2 i).2.2)
section PHd
variable {n h : Nat} {Q : pj_K} {I : Nat → Nat → Int32} {J : Nat → Nat → Int64} {A : Ab}
/-- Telling.choicesOf -/
theorem s92 (hh : 3 ≤ h) {m : Nat} (hA : AV A) (hI : InvC A I) (hm : m < A.W.nm) (q : Q (some (.int (nI (bs (cho A.W A.L m) 9)))) (zc n, I, J)) : pj_D h 92 [.ref 251, .ref 35, .int (nI m)] (zc n, I, J) Q := by
  have h7 := hA.2.2.1
  have h8 := hA.2.1
  have hV := hA.2.2.2.1
  have hL := hI.2.2.1
  have hW := hI.2.1
  refine pj_ent (g := 2) hh (t := mt_92) rfl rfl (v92_0 (pj_D_le 2) I J _ ?_)
  refine s74 (Nat.le_refl 2) (a := 35) (w := A.L.wor) (bu := A.L.bur) (by decide) h7 h8 hW.1.2.2.1 hW.1.2.2.2.1 (fun k hk => (hL.2.2 k hk).2.2.1) (fun k hk => (hL.2.1 k hk).2) (fun j c hj e => by have := LV_c hV hj e; omega) (kI_i ⟨pk_in m 7 (by omega), ?_⟩)
  show (I 40 (nI m).toNatClampNeg = -1 → Q (some (.int (1 ||| (nI (bs (peg A.W A.L) A.W.nc) <<< ((1 : Int32) &&& 31))))) _) ∧ (¬ I 40 (nI m).toNatClampNeg = -1 → _ ∧ Q (some (.int (1 ||| ((nI (bs (peg A.W A.L) A.W.nc) ||| _) <<< ((1 : Int32) &&& 31))))) _)
  rw [nI_clamp (n := m) (by omega), (hL.2.2 m hm).2.2.1]
  have hb : bs (peg A.W A.L) A.W.nc < 256 := Nat.lt_of_lt_of_le (bs_lt _ _) (Nat.pow_le_pow_right (n := 2) (by decide) h8)
  have key : ∀ P, P < 256 → (∀ j, P.testBit j = cho A.W A.L m (j + 1)) → (1 : Int32) ||| (nI P <<< ((1 : Int32) &&& 31)) = nI (bs (cho A.W A.L m) 9) := by
    intro P hP hbit
    rw [pk_shlN ((1 : Int32) &&& 31) 1 (by decide) (by omega)]
    show nI 1 ||| nI (P * 2 ^ 1) = _
    rw [nb_or]
    congr 1
    apply Nat.eq_of_testBit_eq
    intro i
    rw [bs_bit, Nat.testBit_or]
    cases i with
    | zero => simp [cho]
    | succ j =>
      have e1 : (1 : Nat).testBit (j + 1) = false := by
        rw [show (1 : Nat) = 2 ^ 0 from rfl, Nat.testBit_two_pow]
        exact decide_eq_false (by omega)
      have e2 : (P * 2 ^ 1).testBit (j + 1) = P.testBit j := by
        rw [Nat.testBit_succ, Nat.pow_one, Nat.mul_div_cancel _ (by decide)]
      rw [e1, e2, Bool.false_or, hbit j]
      by_cases z : j + 1 < 9
      · rw [decide_eq_true z, Bool.true_and]
      · rw [decide_eq_false z, Bool.false_and]
        cases e : cho A.W A.L m (j + 1) with
        | false => rfl
        | true => have := cho_9 h8 e; omega
  cases ew : A.L.wor m with
  | none =>
    refine ⟨fun _ => ?_, fun z => absurd rfl z⟩
    rw [key _ hb (fun j => ?_)]
    · exact q
    · rw [bs_bit]
      unfold cho
      rw [ew]
      simp only [Nat.add_sub_cancel, reduceCtorEq, decide_false, Bool.or_false]
      rw [beq_eq_false_iff_ne.mpr (Nat.succ_ne_zero j), Bool.false_or]
      rfl
  | some c =>
    have hc := LV_c hV hm ew
    refine ⟨fun z => absurd z (wo_not h8 hV hm ew), fun _ => ⟨pk_in m 7 (by omega), ?_⟩⟩
    have e1 : (1 : Int32) <<< (wo (some c) &&& 31) = nI (2 ^ c) := sh_1 (by omega)
    have hp : (2 : Nat) ^ c < 2 ^ 8 := Nat.pow_lt_pow_right (by decide) (by omega)
    rw [e1, nb_or, key _ (Nat.or_lt_two_pow (n := 8) hb hp) (fun j => ?_)]
    · exact q
    · rw [Nat.testBit_or, bs_bit, Nat.testBit_two_pow]
      unfold cho
      rw [ew, beq_eq_false_iff_ne.mpr (Nat.succ_ne_zero j), Bool.false_or, Nat.add_sub_cancel]
      by_cases z : c = j
      · subst z
        rw [decide_eq_true rfl, decide_eq_true rfl, Bool.or_true, Bool.or_true, Bool.and_true, decide_eq_true (show c + 1 ≤ A.W.nc by omega)]
      · rw [decide_eq_false z, decide_eq_false (show ¬ some c = some j from fun y => z (by cases y; rfl)), Bool.or_false, Bool.or_false]
        rfl
/-- Telling.outfit -/
theorem s93 (hh : 1 ≤ h) {L : Ly} (hW : CW A.W 5 I) (h8 : A.W.nc ≤ 8) (h7 : A.W.nm ≤ 7) (hL : LC A.W 252 L I) (hV : LV A.W L) (q : Q (some (.int (nI (oF (wv L) A.W.nm)))) (zc n, I, J)) : pj_D h 93 [.ref 251] (zc n, I, J) Q := by
  refine pj_ent (g := 0) hh (t := mt_93) rfl rfl (v93_0 (pj_D_le 0) I J ?_)
  suffices loop : ∀ r k, r + k = A.W.nm → pj_R (pj_D 0) ta mc_93 false Q 4 [some (.ref 251), some (.int (nI (oF (wv L) k))), some (.int (nI k)), none] [] (zc n) I J 0 0 from loop A.W.nm 0 (by omega)
  intro r
  induction r with
  | zero =>
    intro k hk
    obtain rfl : k = A.W.nm := by omega
    refine v93_4 (pj_D_le 0) I J _ _ ?_
    rw [hW.1.2.2.2.1]
    exact br_t (nI_le (Nat.le_refl _) (by omega)) q
  | succ r ih =>
    intro k hk
    have hkm : k < A.W.nm := by omega
    have ih := ih (k + 1) (by omega)
    refine v93_4 (pj_D_le 0) I J _ _ ?_
    rw [hW.1.2.2.2.1, nI_clamp (n := k) (by omega), (hL.2.2 k hkm).2.2.1, nI_1]
    have i7 := pk_in (x := nI k) k 7 (by omega)
    have pw : (2 : Nat) ^ (4 * k) ≤ 2 ^ 24 := Nat.pow_le_pow_right (by decide) (by omega)
    have step : ∀ x, x ≤ 8 → x = wv L k → nI (oF (wv L) k) ||| (nI x <<< ((4 : Int32) * nI k &&& 31)) = nI (oF (wv L) (k + 1)) := by
      intro x hx ex
      have hmul : x * 2 ^ (4 * k) ≤ 8 * 2 ^ 24 := Nat.mul_le_mul hx pw
      rw [pk_shlN _ (4 * k) (sh_4 k (by omega)) (by omega), nb_or]
      congr 1
      have hlt : oF (wv L) k < 2 ^ (4 * k) := by rw [← p16]; exact oF_lt (wv_16 L) k
      have := Nat.two_pow_add_eq_or_of_lt hlt x
      rw [Nat.or_comm, Nat.mul_comm x, ← this]
      show _ = oF (wv L) k + wv L k * 16 ^ k
      rw [p16, ← ex, Nat.mul_comm x]
      omega
    refine br_f (nI_ge hkm (by omega)) ⟨i7, ?_⟩
    cases e : L.wor k with
    | none =>
      refine ⟨fun z => absurd rfl z, fun _ => ?_⟩
      have s8 := step 8 (by decide) (by unfold wv; rw [e])
      have s8 : nI (oF (wv L) k) ||| ((8 : Int32) <<< ((4 : Int32) * nI k &&& 31)) = nI (oF (wv L) (k + 1)) := s8
      rw [s8]
      exact ih
    | some c =>
      have hc := LV_c hV hkm e
      refine ⟨fun _ => ⟨i7, ?_⟩, fun z => absurd z (wo_not h8 hV hkm e)⟩
      have sc := step c (by omega) (by unfold wv; rw [e]; simp only; rw [if_pos (by omega)])
      have sc : nI (oF (wv L) k) ||| (wo (some c) <<< ((4 : Int32) * nI k &&& 31)) = nI (oF (wv L) (k + 1)) := sc
      rw [sc]
      exact ih
/-- the outfits of a choice are laid -/
def OT (A : Ab) (m y ch : Nat) (I : Nat → Nat → Int32) : Prop := ∀ k, k ≤ y → I (262 + ch) k = nI (oF (wv (scn A.W A.L m ch k)) A.W.nm)
/-- Telling.coatIn -/
theorem s95 (hh : 1 ≤ h) {m y ch k j : Nat} (h7 : A.W.nm ≤ 7) (hO : OT A m y ch I) (hc : ch < 9) (hk : k ≤ y) (hy : y ≤ 30) (hj : j < A.W.nm) (q : Q (some (.int (nI (wv (scn A.W A.L m ch k) j)))) (zc n, I, J)) : pj_D h 95 [.ref 251, .int (nI ch), .int (nI k), .int (nI j)] (zc n, I, J) Q := by
  refine pj_ent (g := 0) hh (t := mt_95) rfl rfl (v95_0 (pj_D_le 0) I J _ _ _ ?_)
  obtain ⟨z1, z2⟩ := z261 ch hc
  rw [nI_clamp (n := ch) (by omega), z1]
  show _ ∧ _ ∧ (Nat.beq (zK (262 + ch)) 13 || _) = true ∧ vp_in _ (zL n (262 + ch)) ∧ Q (some (.int ((I (262 + ch) _ >>> _) &&& 15))) _
  rw [z2, z261L n ch hc, nI_clamp (n := k) (by omega), hO k hk]
  refine ⟨pk_in ch 9 hc, rfl, rfl, pk_in k 31 (by omega), ?_⟩
  have hb : oF (wv (scn A.W A.L m ch k)) A.W.nm < 2 ^ 28 := Nat.lt_of_lt_of_le (oF_lt (wv_16 _) _) (by rw [p16]; exact Nat.pow_le_pow_right (by decide) (by omega))
  rw [pk_shrN (by omega) _ (4 * j) (sh_4 j (by omega)), pk_andN (Nat.lt_of_le_of_lt (Nat.div_le_self _ _) (by omega)) (m := 15) 4 (by decide)]
  have := oF_d (wv_16 (scn A.W A.L m ch k)) hj
  rw [p16] at this
  show Q (some (.int (nI (oF (wv (scn A.W A.L m ch k)) A.W.nm / 2 ^ (4 * j) % 16)))) _
  rw [this]
  exact q
/-- Telling.goesWithRows -/
theorem s94 (hh : 2 ≤ h) {m y ch : Nat} (hA : AV A) (hI : InvC A I) (hm : m < A.W.nm) (ht : A.L.the m = true) (hch : cho A.W A.L m ch = true) (h7 : I 251 7 = nI y) (hy : y ≤ 30) (hy2 : A.L.yr + y ≤ 999) (hO : OT A m y ch I) (q : Q (some (.int (bi (allN (rokY A m y ch) A.rw.1)))) (zc n, I, J)) : pj_D h 94 [.ref 251, .int (nI ch)] (zc n, I, J) Q := by
  have h8 := hA.2.1
  have hm7 := hA.2.2.1
  have hV := hA.2.2.2.1
  have hc9 : ch < 9 := by have := cho_9 h8 hch; omega
  obtain ⟨r1, r2⟩ := hI.2.2.2.2.2.2.2.2.1
  have a16 := hA.2.2.2.2.2.2.2.2.2.2.1
  have arw := hA.2.2.2.2.2.2.2.2.2.2.2.1
  refine pj_ent (g := 1) hh (t := mt_94) rfl rfl (v94_0 (pj_D_le 1) I J _ ?_)
  have stop : ∀ k, k < A.rw.1 → allN (rokY A m y ch) (k + 1) = false → allN (rokY A m y ch) A.rw.1 = false := by
    intro k hk e
    have : ∀ d, allN (rokY A m y ch) (k + 1 + d) = false := by
      intro d
      induction d with
      | zero => exact e
      | succ d ih =>
        show (allN (rokY A m y ch) (k + 1 + d) && _) = false
        rw [ih, Bool.false_and]
    have e2 := this (A.rw.1 - (k + 1))
    rw [show k + 1 + (A.rw.1 - (k + 1)) = A.rw.1 by omega] at e2
    exact e2
  suffices loop : ∀ r k, r + k = A.rw.1 → allN (rokY A m y ch) k = true → pj_R (pj_D 1) ta mc_94 true Q 2 [some (.ref 251), some (.int (nI ch)), some (.int (nI k)), none, none] [] (zc n) I J 0 0 from loop A.rw.1 0 (by omega) rfl
  intro r
  induction r with
  | zero =>
    intro k hk hall
    obtain rfl : k = A.rw.1 := by omega
    rw [hall] at q
    refine v94_2 (pj_D_le 1) I J _ _ ?_
    rw [r1]
    exact br_t (nI_le (Nat.le_refl _) (by omega)) q
  | succ r ih =>
    intro k hk hall
    have hkr : k < A.rw.1 := by omega
    obtain ⟨v1, v2, v3⟩ := arw k hkr
    obtain ⟨p1, p2, p3⟩ := r2 k hkr
    have e3 : nI k * 3 = nI (3 * k) := (pk_mul k 3).trans (congrArg nI (by omega))
    have e32 : nI (3 * k) + 2 = nI (3 * k + 2) := nI_add _ 2
    refine v94_2 (pj_D_le 1) I J _ _ ?_
    rw [r1, e3, e32, nI_1 k, nI_1 (3 * k), nI_clamp (n := 3 * k) (by omega), nI_clamp (n := 3 * k + 1) (by omega), nI_clamp (n := 3 * k + 2) (by omega), p1, p2, p3, h7]
    have i0 := pk_in (x := nI (3 * k)) (3 * k) 48 (by omega)
    have i1 := pk_in (x := nI (3 * k + 1)) (3 * k + 1) 48 (by omega)
    have i2 := pk_in (x := nI (3 * k + 2)) (3 * k + 2) 48 (by omega)
    have es : allN (rokY A m y ch) (k + 1) = rokY A m y ch k := by
      show (allN (rokY A m y ch) k && _) = _
      rw [hall, Bool.true_and]
    have no : rokY A m y ch k = false → Q (some (.int 0)) (zc n, I, J) := fun z => by
      rw [stop k hkr (by rw [es]; exact z)] at q
      exact q
    have go : rokY A m y ch k = true → pj_R (pj_D 1) ta mc_94 true Q 2 [some (.ref 251), some (.int (nI ch)), some (.int (nI (k + 1))), none, none] [] (zc n) I J 0 0 := fun z => ih (k + 1) (by omega) (by rw [es]; exact z)
    have cmp : ∀ x : Int32, x = nI ((A.rw.2 k).2.2.getD 8) → ((nI y < nI (A.rw.2 k).1 → Q (some (.int 0)) (zc n, I, J)) ∧ (¬ nI y < nI (A.rw.2 k).1 → (vp_in (nI (3 * k + 1)) 48 ∧ pj_D 1 95 [.ref 251, .int (nI ch), .int (nI (A.rw.2 k).1), .int (nI (A.rw.2 k).2.1)] (zc n, I, J) (kI n fun v1 I1 J1 => ((v1 = x → pj_R (pj_D 1) ta mc_94 true Q 2 [some (.ref 251), some (.int (nI ch)), some (.int (nI (k + 1))), none, none] [] (zc n) I1 J1 0 0) ∧ (¬ v1 = x → Q (some (.int 0)) (zc n, I1, J1))))))) := by
      intro x hx
      refine pk_lt y (A.rw.2 k).1 (fun c => no (by unfold rokY; rw [decide_eq_false (by omega), Bool.false_and])) (fun c => ⟨i1, s95 (Nat.le_refl 1) hm7 hO hc9 c hy v2 (kI_i ?_)⟩)
      have sv := scn_V (k := (A.rw.2 k).1) hV hm ht hch (by omega)
      have w16 := wv_16 (scn A.W A.L m ch (A.rw.2 k).1) (A.rw.2 k).2.1
      have g8 : (A.rw.2 k).2.2.getD 8 < 16 := by
        cases e : (A.rw.2 k).2.2 with
        | none => decide
        | some c => have := v3 c e; show c < 16; omega
      rw [hx, nI_eq (by omega) (by omega), wv_eq h8 sv.1 v2 v3]
      refine ⟨fun z => go ?_, fun z => no ?_⟩
      · unfold rokY
        rw [decide_eq_true c, decide_eq_true z]; rfl
      · unfold rokY
        rw [decide_eq_false z, Bool.and_false]
    refine br_f (nI_ge hkr (by omega)) ⟨i0, i2, ?_⟩
    have ew : nI ((A.rw.2 k).2.2.getD 255) = 255 ↔ (A.rw.2 k).2.2 = none := by
      cases e : (A.rw.2 k).2.2 with
      | none => exact ⟨fun _ => rfl, fun _ => rfl⟩
      | some c =>
        have := v3 c e
        refine ⟨fun z => ?_, fun z => by cases z⟩
        have := (nI_eq (a := c) (b := 255) (by omega) (by decide)).mp z
        omega
    rw [ew]
    refine ⟨fun d => ⟨i2, cmp _ ?_⟩, fun d => cmp 8 ?_⟩
    · cases e : (A.rw.2 k).2.2 with
      | none => exact absurd e d
      | some c => rfl
    · rw [d]; rfl
end PHd
