/-! passes: the reference -/
section PPx
variable {n h : Nat} {Q : pj_K} {I : Nat → Nat → Int32} {J : Nat → Nat → Int64} {A : Ab}
theorem s216w (hh : 5 ≤ h) {W : Wk} {L : Ly} {B v m : Nat} {o : Option Nat} (hv : v < 22) (hB : I 276 13 = nI B) (hW : MW W B I J) (hV : WV W) (hL : LM W v L I) (hLV : LV W L) (hm : m < W.nm) (ho : ∀ c, o = some c → c < W.nc) (q : ∀ I' J', pj_fr aS I I' → pj_fr sS J J' → Q (some (.long (iL (wmo W L m o)))) (zc n, I', J')) : pj_D h 216 [.ref 276, .int (nI v), .int (nI m), .int (wo o)] (zc n, I, J) Q := by
  refine s216 hh hv hB hW hV hL hLV hm ho (fun I' J' f j => ?_)
  have q := q I' J' f j
  cases o <;> exact q
/-- PegCoatsModel.changesWell -/
theorem s240 (hh : 6 ≤ h) {W : Wk} {L : Ly} {B i j : Nat} (hB : I 276 13 = nI B) (hW : MW W B I J) (hV : WV W) (hL : LM W 1 L I) (hLV : LV W L) (hi : i < W.nm) (hj : j < W.nm) (hij : i ≠ j) (q0 : ∀ I' J', pj_fr (tS 1) I I' → pj_fr sS J J' → wel W L i j = false → Q (some (.int 0)) (zc n, I', J')) (q1 : ∀ I' J', pj_fr (tS 1) I I' → pj_fr sS J J' → wel W L i j = true → LM W 1 (L.chg i j) I' → Q (some (.int 1)) (zc n, I', J')) : pj_D h 240 [.ref 276, .int (nI i), .int (nI j)] (zc n, I, J) Q := by
  have h8 := hW.1.1
  have h7 := hW.1.2.1
  have wi : ∀ c, L.wor i = some c → c < W.nc := fun c e => LV_c hLV hi e
  have wj : ∀ c, L.wor j = some c → c < W.nc := fun c e => LV_c hLV hj e
  have e1 : (7 : Int32) + nI i = nI (7 * 1 + i) := nI_add 7 i
  have e2 : (7 : Int32) + nI j = nI (7 * 1 + j) := nI_add 7 j
  obtain ⟨G, g1, g2, g3⟩ := hL.2.2.1
  have ri := (hL.2.2.2.2 i hi).2.2.1
  have rj := (hL.2.2.2.2 j hj).2.2.1
  have gbx : ∀ {L' : Ly} {k : Nat} {o : Option Nat}, LV W L' → k < W.nm → (∀ c, o = some c → c < W.nc) → GB (wmo W L' k o) := fun {L' k o} hv hk hok => by
    cases o with
    | none => exact ⟨by show (-1000000 : Int) ≤ 0; decide, by show (0 : Int) ≤ 1000000; decide⟩
    | some c =>
      have := hv.2.1 c (hok c rfl)
      have v := hv.2.2.1 k hk
      have y := hv.1
      exact wm_b hV (hok c rfl) (by omega) (by omega) (by omega) (by omega)
  have z50 : ∀ {I' J'}, pj_fr (tS 1) I I' → pj_fr sS J J' → wel W L i j = false → pj_R (pj_D 5) ta mc_240 true Q 50 [none, none, none, none, none, none, none, none, none] [] (zc n) I' J' 0 0 := fun {I' J'} f1 f2 e => v240_50 (pj_D_le 5) I' J' (q0 I' J' f1 f2 e)
  refine pj_ent (g := 5) hh (t := mt_240) rfl rfl (v240_0 (pj_D_le 5) I J _ _ ?_)
  rw [e1, e2, nI_clamp (n := 7 * 1 + i) (by omega), nI_clamp (n := 7 * 1 + j) (by omega), ri, rj]
  refine ⟨pk_in (7 * 1 + i) 154 (by omega), pk_in (7 * 1 + j) 154 (by omega), v240_21 (pj_D_le 5) I J _ _ _ _ ?_⟩
  refine s206 (by decide) (v := 1) (by decide) g1 (by omega) (by omega) (kI_i ?_)
  rw [g3 i hi, Bool.not_not]
  cases t1 : L.the i with
  | false => exact ⟨fun _ => z50 pj_fr_rf pj_fr_rf (by unfold wel; rw [t1]; simp only [Bool.false_and]), fun z => absurd rfl z⟩
  | true =>
  refine ⟨fun z => absurd z (by decide), fun _ => s206 (by decide) (v := 1) (by decide) g1 (by omega) (by omega) (kI_i ?_)⟩
  rw [g3 j hj, Bool.not_not]
  cases t2 : L.the j with
  | false => exact ⟨fun _ => z50 pj_fr_rf pj_fr_rf (by unfold wel; rw [t2]; simp only [Bool.false_and, Bool.and_false]), fun z => absurd rfl z⟩
  | true =>
  refine ⟨fun z => absurd z (by decide), fun _ => ?_⟩
  have hV1 := chg_LV hLV hi hj t1 t2 hij
  have aft : ((L.wor i).isNone && (L.wor j).isNone) = false → pj_D 5 216 [.ref 276, .int 1, .int (nI i), .int (wo (L.wor i))] (zc n, I, J) (kL n fun v3 I3 J3 => pj_D 5 216 [.ref 276, .int 1, .int (nI j), .int (wo (L.wor j))] (zc n, I3, J3) (kL n fun v4 I4 J4 => pj_R (pj_D 5) ta mc_240 true Q 71 [some (.ref 276), some (.int (nI i)), some (.int (nI j)), some (.int (wo (L.wor i))), some (.int (wo (L.wor j))), some (.long v3), none, some (.long v4), none] [] (zc n) I4 J4 0 0)) := by
    intro hz
    unfold wel at q0 q1
    rw [t1, t2, hz] at q0 q1
    simp only [Bool.true_and, Bool.not_false] at q0 q1
    refine s216w (Nat.le_refl 5) (v := 1) (by decide) hB hW hV hL hLV hi wi (fun I1 J1 f1 j1 => kL_i ?_)
    have f1 := tS_a (v := 1) f1
    have b1 : I1 276 13 = nI B := (f1 _ _ (tS_f (by omega))).trans hB
    have l1 : LM W 1 L I1 := LM_a (by assumption) hL
    refine s216w (Nat.le_refl 5) (v := 1) (by decide) b1 (MW_t f1 j1 hW) hV l1 hLV hj wj (fun I2 J2 f2 j2 => kL_i ?_)
    have f2' := pj_fr_tr f1 (tS_a (v := 1) f2)
    have j2' := pj_fr_tr j1 j2
    have l2 : LM W 1 L I2 := LM_a f2 l1
    refine v240_71 (pj_D_le 5) I2 J2 _ _ _ _ _ _ ?_
    refine s241 (by decide) (v := 1) (by decide) h8 h7 l2 hLV hi hj hij (fun I3 l3 f3 => kV_i ?_)
    have f3' := pj_fr_tr f2' (tS_m (nS_m f3))
    have b3 : I3 276 13 = nI B := (f3' _ _ (tS_f (by omega))).trans hB
    refine s216w (Nat.le_refl 5) (v := 1) (by decide) b3 (MW_t f3' j2' hW) hV l3 hV1 hi wj (fun I4 J4 f4 j4 => kL_i ?_)
    have f4' := pj_fr_tr f3' (tS_a (v := 1) f4)
    have j4' := pj_fr_tr j2' j4
    have l4 : LM W 1 (L.chg i j) I4 := LM_a f4 l3
    show (lg_cmp (iL (wmo W (L.chg i j) i (L.wor j))) (iL (wmo W L i (L.wor i))) < 0 → _) ∧ (¬ lg_cmp (iL (wmo W (L.chg i j) i (L.wor j))) (iL (wmo W L i (L.wor i))) < 0 → _)
    rw [lg_cmp_lt, iL_lt (gbx hV1 hi wj).l (gbx hLV hi wi).l]
    by_cases c1 : wmo W L i (L.wor i) ≤ wmo W (L.chg i j) i (L.wor j)
    · rw [decide_eq_true c1, Bool.true_and] at q0 q1
      refine ⟨fun z => absurd c1 (by omega), fun _ => ?_⟩
      have b4 : I4 276 13 = nI B := (f4' _ _ (tS_f (by omega))).trans hB
      refine s216w (Nat.le_refl 5) (v := 1) (by decide) b4 (MW_t f4' j4' hW) hV l4 hV1 hj wi (fun I5 J5 f5 j5 => kL_i ?_)
      have f5' := pj_fr_tr f4' (tS_a (v := 1) f5)
      have j5' := pj_fr_tr j4' j5
      show (lg_cmp (iL (wmo W (L.chg i j) j (L.wor i))) (iL (wmo W L j (L.wor j))) < 0 → _) ∧ (¬ lg_cmp (iL (wmo W (L.chg i j) j (L.wor i))) (iL (wmo W L j (L.wor j))) < 0 → _)
      rw [lg_cmp_lt, iL_lt (gbx hV1 hj wi).l (gbx hLV hj wj).l]
      by_cases c2 : wmo W L j (L.wor j) ≤ wmo W (L.chg i j) j (L.wor i)
      · exact ⟨fun z => absurd c2 (by omega), fun _ => v240_105 (pj_D_le 5) I5 J5 (q1 I5 J5 f5' j5' (decide_eq_true c2) (LM_a f5 l4))⟩
      · exact ⟨fun _ => q0 I5 J5 f5' j5' (decide_eq_false c2), fun z => absurd (by omega) z⟩
    · rw [decide_eq_false c1, Bool.false_and] at q0
      exact ⟨fun _ => q0 I4 J4 f4' j4' rfl, fun z => absurd (by omega) z⟩
  cases w1 : L.wor i with
  | some c =>
    rw [w1] at aft
    have hc := wi c w1
    refine ⟨fun _ => aft rfl, fun z => ?_⟩
    have := (wo_none (o := some c) (fun c' e' => by cases e'; omega)).mp z
    cases this
  | none =>
    rw [w1] at aft
    refine ⟨fun z => absurd rfl z, fun _ => ?_⟩
    cases w2 : L.wor j with
    | some c =>
      rw [w2] at aft
      have hc := wj c w2
      refine ⟨fun _ => aft rfl, fun z => ?_⟩
      have := (wo_none (o := some c) (fun c' e' => by cases e'; omega)).mp z
      cases this
    | none => exact ⟨fun z => absurd rfl z, fun _ => z50 pj_fr_rf pj_fr_rf (by unfold wel; rw [w1, w2]; simp)⟩
end PPx
/-- the digits of a way -/
theorem dg_1 {N k w : Nat} : w % N ^ (k + 1) / N ^ k = w / N ^ k % N := by rw [Nat.pow_succ, Nat.mod_mul_right_div_self]
theorem dg_2 {N k w : Nat} : w % N ^ (k + 1) % N ^ k = w % N ^ k := Nat.mod_mod_of_dvd w (Nat.pow_dvd_pow N (by omega))
theorem okW_x {W : Wk} {m c : Nat} : ∀ {k : Nat} {L : Ly} {w : Nat} {x : List Nat}, okW W m c k L (w % off W.nm W.nm ^ k) = some x → x.length = k ∧ ∀ i, i < k → x.getD i 0 = pcd W.nm (w / off W.nm W.nm ^ (k - 1 - i) % off W.nm W.nm)
  | 0, L, w, x, h => by
    unfold okW at h
    split at h
    · cases h; exact ⟨rfl, fun i hi => absurd hi (Nat.not_lt_zero _)⟩
    · cases h
  | k + 1, L, w, x, h => by
    unfold okW at h
    rw [dg_1, dg_2] at h
    split at h
    · cases e : okW W m c k (L.chg (pcd W.nm (w / off W.nm W.nm ^ k % off W.nm W.nm) / 8) (pcd W.nm (w / off W.nm W.nm ^ k % off W.nm W.nm) % 8)) (w % off W.nm W.nm ^ k) with
      | none => rw [e] at h; cases h
      | some y =>
        rw [e] at h
        have h : some (pcd W.nm (w / off W.nm W.nm ^ k % off W.nm W.nm) :: y) = some x := h
        cases h
        obtain ⟨h1, h2⟩ := okW_x e
        refine ⟨congrArg (· + 1) h1, fun i hi => ?_⟩
        cases i with
        | zero => rfl
        | succ i =>
          show y.getD i 0 = _
          rw [h2 i (by omega), show k + 1 - 1 - (i + 1) = k - 1 - i by omega]
    · cases h
