/-! the reference: the value of a program -/
section PRk
variable {n h : Nat} {Q : pj_K} {I : Nat → Nat → Int32} {J : Nat → Nat → Int64}
theorem li_3k (v k : Nat) : (3 : Int32) * nI v + nI k = nI (3 * v + k) := by
  show nI 3 * nI v + nI k = _
  rw [pk_mul, nI_add]
theorem li_16 (v k : Nat) : (1600 : Int32) * nI v + nI k = nI (1600 * v + k) := by
  show nI 1600 * nI v + nI k = _
  rw [pk_mul, nI_add]
theorem mop_ok {o : Nat} (h1 : 31 ≤ o) (h2 : o ≤ 42) : 30 < nI o ∧ ¬ nI o = 43 ∧ ¬ nI o = 44 := by
  obtain rfl | rfl | rfl | rfl | rfl | rfl | rfl | rfl | rfl | rfl | rfl | rfl : o = 31 ∨ o = 32 ∨ o = 33 ∨ o = 34 ∨ o = 35 ∨ o = 36 ∨ o = 37 ∨ o = 38 ∨ o = 39 ∨ o = 40 ∨ o = 41 ∨ o = 42 := by omega
  all_goals decide
theorem mw_ok {w : Nat} (h1 : 1 ≤ w) (h2 : w ≤ 8) : ¬ 30 < nI w ∧ ¬ nI w = 0 ∧ ¬ nI w = 30 := by
  obtain rfl | rfl | rfl | rfl | rfl | rfl | rfl | rfl : w = 1 ∨ w = 2 ∨ w = 3 ∨ w = 4 ∨ w = 5 ∨ w = 6 ∨ w = 7 ∨ w = 8 := by omega
  all_goals decide
/-- PegCoatsModel.reckons -/
theorem s219 (hh : 3 ≤ h) {p f B : Nat} {ts : List Tk} {b : Bool} {e : Nat → Int} (hp : p < 3) (hB : I 276 13 = nI B) (hB2 : B < 2) (h14 : I 286 (3 * B + p) = nI f) (h15 : I 287 (3 * B + p) = nI (f + ts.length)) (hf : f + ts.length ≤ 1600) (hC : MC (1600 * B + f) ts I) (hT : tys p ts [] [b]) (hE : ∀ w, al p w = true → I 310 w = iI (e w) ∧ GB (e w)) (q : ∀ J', pj_fr (fun c _ => c == 309) J J' → Q (some (.long (iL (val ts e)))) (zc n, I, J')) : pj_D h 219 [.ref 276, .int (nI p)] (zc n, I, J) Q := by
  refine pj_ent (g := 2) hh (t := mt_219) rfl rfl (v219_0 (pj_D_le 2) I J _ ?_)
  rw [hB, li_3k, nI_clamp (n := 3 * B + p) (by omega), h14, li_16]
  refine ⟨pk_in (3 * B + p) 6 (by omega), ?_⟩
  suffices loop : ∀ (us : List Tk) (k : Nat) (s : List Bool) (r : List Int) (J' : Nat → Nat → Int64), k + us.length = 1600 * B + (f + ts.length) → tys p us s [b] → s.length ≤ 100 → VT s r → MC k us I → SM r J' → pj_fr (fun c _ => c == 309) J J' → (∀ J', pj_fr (fun c _ => c == 309) J J' → Q (some (.long (iL (hd0 (evs us e r))))) (zc n, I, J')) →
      pj_R (pj_D 2) ta mc_219 false Q 25 [some (.ref 276), some (.int (nI p)), some (.int (nI r.length)), some (.int (nI k)), none] [] (zc n) I J' 0 0 from
    loop ts (1600 * B + f) [] [] J (by omega) hT (by simp) trivial hC trivial pj_fr_rf q
  intro us
  induction us with
  | nil =>
    intro k s r J' hk ht hs hv hc hst hfr q
    simp only [List.length_nil] at hk
    have ht : s = [b] := ht
    subst ht
    obtain ⟨v, r', rfl, -, -, -⟩ := VT_c hv
    have hl := VT_len hv
    simp only [List.length_cons, List.length_nil] at hl
    obtain rfl : r' = [] := List.eq_nil_of_length_eq_zero (by omega)
    refine v219_25 (pj_D_le 2) I J' _ _ _ ?_
    rw [hB, li_3k, nI_clamp (n := 3 * B + p) (by omega), h15, li_16]
    refine ⟨pk_in (3 * B + p) 6 (by omega), br_t (nI_le (by omega) (by omega)) ?_⟩
    have h3 : J' 309 0 = iL v := hst.1
    rw [h3]
    exact q J' hfr
  | cons t us ih =>
    intro k s r J' hk ht hs hv hc hst hfr q
    simp only [List.length_cons] at hk
    obtain ⟨m, h1, ht2⟩ := ht
    have hl := VT_len hv
    have hs' := ty1_len h1 hs
    have hv' := vt_step h1 hv (fun w hw => (hE w hw).2)
    have ih := fun J'' a b => ih (k + 1) m (ev1 t e r) J'' (by omega) ht2 hs' hv' hc.2 a b q
    have f17 : ∀ (i : Nat) (x : Int64), pj_fr (fun c _ => c == 309) J (pj_u J' 309 i x) := fun i x => pj_fr_u hfr rfl
    refine v219_25 (pj_D_le 2) I J' _ _ _ ?_
    rw [hB, li_3k, nI_clamp (n := 3 * B + p) (by omega), h15, li_16, nI_clamp (n := k) (by omega), hc.1.1, nI_1]
    refine ⟨pk_in (3 * B + p) 6 (by omega), br_f (nI_ge (by omega) (by omega)) ⟨pk_in k 3200 (by omega), ?_⟩⟩
    obtain ⟨a, c⟩ := t
    rcases h1 with ⟨rfl, h1, h, rfl⟩ | ⟨rfl, h1, h, rfl⟩ | ⟨rfl, h1, h2, w, rfl, rfl⟩ | ⟨rfl, w, rfl, rfl⟩ | ⟨rfl, w, rfl, rfl⟩ | ⟨rfl, h, rfl⟩
    · have h1 : c ≤ 9999 := h1
      have e9 : I 289 k = nI c := hc.1.2 rfl
      show (30 < nI 0 → _) ∧ (¬ 30 < nI 0 → _)
      refine br_f (by decide) ⟨fun z => absurd rfl z, fun _ => ⟨pk_in k 3200 (by omega), pk_in r.length 500 (by omega), ?_⟩⟩
      rw [nI_clamp (n := r.length) (by omega), nI_1, e9]
      have e2 : (nI c).toInt64 = iL (c : Int) := iI_l (a := (c : Int)) ⟨by omega, by omega⟩
      rw [e2]
      exact ih _ ⟨pj_u_e, SM_u (Nat.le_refl _) hst⟩ (f17 _ _)
    · have hw := al_b h1
      obtain ⟨w1, w2, w3⟩ := mw_ok hw.1 hw.2
      show (30 < nI c → _) ∧ (¬ 30 < nI c → _)
      refine br_f w1 ⟨fun _ => ⟨fun _ => ⟨pk_in c 12 (by omega), pk_in r.length 500 (by omega), ?_⟩, fun z => absurd z w3⟩, fun z => absurd z w2⟩
      show pj_R _ _ _ _ _ _ _ _ _ _ (pj_u J' 309 (nI r.length).toNatClampNeg (I 310 (nI c).toNatClampNeg).toInt64) _ _
      rw [nI_clamp (n := r.length) (by omega), nI_clamp (n := c) (by omega), nI_1, (hE c h1).1, iI_l (hE c h1).2.i]
      exact ih _ ⟨pj_u_e, SM_u (Nat.le_refl _) hst⟩ (f17 _ _)
    · obtain ⟨y, r1, rfl, gy, ty, hv⟩ := VT_c hv
      obtain ⟨x, r2, rfl, gx, tx, hv⟩ := VT_c hv
      have h1 : 31 ≤ c := h1
      have h2 : c ≤ 42 := h2
      obtain ⟨c1, c2, c3⟩ := mop_ok h1 h2
      have hw := VT_len hv
      simp only [List.length_cons] at hs hl
      show (30 < nI c → _) ∧ (¬ 30 < nI c → _)
      refine br_t c1 ⟨fun _ => ⟨fun _ => ?_, fun z => absurd z c3⟩, fun z => absurd z c2⟩
      have e1 : nI (y :: x :: r2).length + (-1) = nI (r2.length + 1) := pk_m1 (r2.length + 1)
      rw [e1, nI_pred, nI_clamp (n := r2.length) (by omega), nI_clamp (n := r2.length + 1) (by omega)]
      have ey : J' 309 (r2.length + 1) = iL y := hst.1
      have ex : J' 309 r2.length = iL x := hst.2.1
      rw [ey, ex]
      exact ⟨pk_in r2.length 500 (by omega), pk_in (r2.length + 1) 500 (by omega), s220 (Nat.le_refl 2) h1 h2 gx gy (fun z => ⟨tx (decide_eq_true z), ty (decide_eq_true z)⟩) (kL_i ⟨pk_in r2.length 500 (by omega), ih _ ⟨pj_u_e, SM_u (Nat.le_refl _) hst.2.2⟩ (f17 _ _)⟩)⟩
    · obtain ⟨x, r1, rfl, gx, tx, hv⟩ := VT_c hv
      have hw := VT_len hv
      simp only [List.length_cons] at hs hl
      refine br_t (by show 30 < nI 43; decide) ⟨fun z => absurd rfl z, fun _ => ?_⟩
      have e1 : nI (x :: r1).length - 1 = nI r1.length := nI_pred r1.length
      rw [e1, nI_clamp (n := r1.length) (by omega)]
      have ex : J' 309 r1.length = iL x := hst.1
      rw [ex]
      have e2 : (1 : Int64) - iL x = iL (1 - x) := iL_sub 1 x
      rw [e2]
      exact ⟨pk_in r1.length 500 (by omega), pk_in r1.length 500 (by omega), ih _ ⟨pj_u_e, SM_u (Nat.le_refl _) hst.2⟩ (f17 _ _)⟩
    · obtain ⟨z, r1, rfl, gz, tz, hv⟩ := VT_c hv
      obtain ⟨y, r2, rfl, gy, ty, hv⟩ := VT_c hv
      obtain ⟨x, r3, rfl, gx, tx, hv⟩ := VT_c hv
      have hw := VT_len hv
      simp only [List.length_cons] at hs hl
      refine br_t (by show 30 < nI 44; decide) ⟨fun _ => ⟨fun c => absurd rfl c, fun _ => ?_⟩, fun c => absurd c (by show ¬ nI 44 = 43; decide)⟩
      have e1 : nI (z :: y :: x :: r3).length + (-2) = nI (r3.length + 1) := pk_m2 (r3.length + 1)
      rw [e1, nI_pred, nI_1, nI_clamp (n := r3.length) (by omega), nI_clamp (n := r3.length + 1) (by omega), nI_clamp (n := r3.length + 1 + 1) (by omega)]
      have ez : J' 309 (r3.length + 1 + 1) = iL z := hst.1
      have ey : J' 309 (r3.length + 1) = iL y := hst.2.1
      have ex : J' 309 r3.length = iL x := hst.2.2.1
      rw [ez, ey, ex, lg_cmp_eq]
      have i0 := pk_in (x := nI r3.length) r3.length 500 (by omega)
      have i1 := pk_in (x := nI (r3.length + 1)) (r3.length + 1) 500 (by omega)
      have i2 := pk_in (x := nI (r3.length + 1 + 1)) (r3.length + 1 + 1) 500 (by omega)
      have ev : ev1 (4, c) e (z :: y :: x :: r3) = (if x = 0 then z else y) :: r3 := rfl
      rw [ev] at ih
      rcases tx rfl with rfl | rfl
      · rw [if_pos rfl] at ih
        exact ⟨i0, fun d => ⟨i2, i0, ih _ ⟨pj_u_e, SM_u (Nat.le_refl _) hst.2.2.2⟩ (f17 _ _)⟩, fun d => absurd d (by decide)⟩
      · rw [if_neg (by decide)] at ih
        exact ⟨i0, fun d => absurd (show iL 1 = 1 from rfl) d, fun d => ⟨i1, i0, ih _ ⟨pj_u_e, SM_u (Nat.le_refl _) hst.2.2.2⟩ (f17 _ _)⟩⟩
    · refine br_f (by show ¬ 30 < nI 30; decide) ⟨fun _ => ⟨fun z => absurd rfl z, fun _ => ⟨pk_in r.length 500 (by omega), ?_⟩⟩, fun z => absurd z (by show ¬ nI 30 = 0; decide)⟩
      rw [nI_clamp (n := r.length) (by omega), nI_1]
      exact ih _ ⟨pj_u_e, SM_u (Nat.le_refl _) hst⟩ (f17 _ _)
end PRk
