/-! the class: the value of a program -/
section PRs
variable {n h : Nat} {Q : pj_K} {I : Nat → Nat → Int32} {J : Nat → Nat → Int64}
/-- Works.result -/
theorem s106 (hh : 2 ≤ h) {p f : Nat} {ts : List Tk} {b : Bool} {e : Nat → Int} (hp : p < 3) (h14 : I 14 p = nI f) (h15 : I 15 p = nI (f + ts.length)) (hf : f + ts.length ≤ 1600) (hC : CC 13 f ts I) (hT : tys p ts [] [b]) (hE : ∀ w, al p w = true → I 16 (cw w) = iI (e w) ∧ GB (e w)) (q : ∀ I', pj_fr (fun c _ => c == 17) I I' → Q (some (.int (iI (val ts e)))) (zc n, I', J)) : pj_D h 106 [.ref 5, .int (nI p)] (zc n, I, J) Q := by
  refine pj_ent (g := 1) hh (t := mt_106) rfl rfl (v106_0 (pj_D_le 1) I J _ ⟨pk_in p 3 hp, pk_in p 3 hp, ?_⟩)
  rw [nI_clamp (n := p) (by omega), h14, h15]
  suffices loop : ∀ (us : List Tk) (k : Nat) (s : List Bool) (r : List Int) (I' : Nat → Nat → Int32), k + us.length = f + ts.length → tys p us s [b] → s.length ≤ 100 → VT s r → CC 13 k us I → SC r I' → pj_fr (fun c _ => c == 17) I I' → (∀ I', pj_fr (fun c _ => c == 17) I I' → Q (some (.int (iI (hd0 (evs us e r))))) (zc n, I', J)) →
      pj_R (pj_D 1) ta mc_106 false Q 17 [some (.ref 5), none, some (.int (nI (3 + r.length))), some (.int (nI (f + ts.length))), some (.int (nI k)), none] [] (zc n) I' J 0 0 from
    loop ts f [] [] I rfl hT (by simp) trivial hC trivial pj_fr_rf q
  intro us
  induction us with
  | nil =>
    intro k s r I' hk ht hs hv hc hst hfr q
    simp only [List.length_nil] at hk
    have ht : s = [b] := ht
    subst ht
    obtain ⟨v, r', rfl, -, -, -⟩ := VT_c hv
    have hl := VT_len hv
    simp only [List.length_cons, List.length_nil] at hl
    obtain rfl : r' = [] := List.eq_nil_of_length_eq_zero (by omega)
    refine v106_17 (pj_D_le 1) I' J _ _ _ (br_t (nI_le (by omega) (by omega)) ?_)
    have e3 : nI (3 + [v].length) = nI 4 := rfl
    rw [e3]
    refine br_f (by decide) ⟨pk_in 3 128 (by decide), ?_⟩
    have h3 : I' 17 3 = iI v := hst.1
    show Q (some (.int (I' 17 3))) _
    rw [h3]
    exact q I' hfr
  | cons t us ih =>
    intro k s r I' hk ht hs hv hc hst hfr q
    simp only [List.length_cons] at hk
    obtain ⟨m, h1, ht2⟩ := ht
    have hl := VT_len hv
    have hs' := ty1_len h1 hs
    have hv' := vt_step h1 hv (fun w hw => (hE w hw).2)
    have ec : I' 13 k = ctk t := (hfr 13 k rfl).trans hc.1
    have ih := fun I'' a b => ih (k + 1) m (ev1 t e r) I'' (by omega) ht2 hs' hv' hc.2 a b q
    have f17 : ∀ (i : Nat) (x : Int32), pj_fr (fun c _ => c == 17) I (pj_u I' 17 i x) := fun i x => pj_fr_u hfr rfl
    refine v106_17 (pj_D_le 1) I' J _ _ _ (br_f (nI_ge (by omega) (by omega)) (br_f (pk_lt (3 + r.length) 3 (fun c => by omega) (fun _ => trivial) |> fun _ => nI_nlt (b := 3) (by omega) (by omega)) (br_f (nI_ge (b := 128) (by omega) (by omega)) ⟨pk_in k 1600 (by omega), ?_⟩)))
    rw [nI_clamp (n := k) (by omega), ec, nI_1]
    obtain ⟨a, c⟩ := t
    rcases h1 with ⟨rfl, h1, h, rfl⟩ | ⟨rfl, h1, h, rfl⟩ | ⟨rfl, h1, h2, w, rfl, rfl⟩ | ⟨rfl, w, rfl, rfl⟩ | ⟨rfl, w, rfl, rfl⟩ | ⟨rfl, h, rfl⟩
    · have h1 : c ≤ 9999 := h1
      show (nI c ≤ -30 → _) ∧ (¬ nI c ≤ -30 → _)
      have hp := nI_pos (n := c) (by omega)
      refine br_f (fun z => hp (Int32.lt_of_le_of_lt z (by decide))) (br_f hp ⟨pk_in (3 + r.length) 128 (by omega), ?_⟩)
      rw [nI_clamp (n := 3 + r.length) (by omega), nI_1]
      exact ih _ ⟨pj_u_e, SC_u (Nat.le_refl _) hst⟩ (f17 _ _)
    · have hw := al_b h1
      obtain ⟨w1, w2, w3, w4⟩ := cw_ok (w := c) hw.1 hw.2
      have ec2 : ctk (1, c) = -1 - nI (cw c) := rfl
      rw [ec2]
      refine br_f w1 (br_t w2 ?_)
      rw [w3, nI_clamp (n := 3 + r.length) (by omega), nI_clamp (n := cw c) (by omega), nI_1]
      refine ⟨pk_in (cw c) 29 w4, pk_in (3 + r.length) 128 (by omega), ?_⟩
      have e1 : I' 16 (cw c) = iI (e c) := (hfr 16 _ rfl).trans (hE c h1).1
      rw [e1]
      exact ih _ ⟨pj_u_e, SC_u (Nat.le_refl _) hst⟩ (f17 _ _)
    · obtain ⟨y, r1, rfl, gy, ty, hv⟩ := VT_c hv
      obtain ⟨x, r2, rfl, gx, tx, hv⟩ := VT_c hv
      have h1 : 31 ≤ c := h1
      have h2 : c ≤ 42 := h2
      obtain ⟨c1, c2, c3⟩ := cop_ok h1 h2
      have hw := VT_len hv
      simp only [List.length_cons] at hs hl
      show (cop c ≤ -30 → _) ∧ (¬ cop c ≤ -30 → _)
      refine br_t c1 ⟨fun _ => ⟨fun _ => ?_, fun z => absurd z c3⟩, fun z => absurd z c2⟩
      have e1 : nI (3 + (y :: x :: r2).length) + (-1) = nI (3 + r2.length + 1) := pk_m1 (3 + r2.length + 1)
      rw [e1, nI_pred, nI_clamp (n := 3 + r2.length) (by omega), nI_clamp (n := 3 + r2.length + 1) (by omega)]
      have ey : I' 17 (3 + r2.length + 1) = iI y := hst.1
      have ex : I' 17 (3 + r2.length) = iI x := hst.2.1
      rw [ey, ex]
      exact ⟨pk_in (3 + r2.length) 128 (by omega), pk_in (3 + r2.length + 1) 128 (by omega), s107 (Nat.le_refl 1) h1 h2 gx gy (kI_i ⟨pk_in (3 + r2.length) 128 (by omega), ih _ ⟨pj_u_e, SC_u (Nat.le_refl _) hst.2.2⟩ (f17 _ _)⟩)⟩
    · obtain ⟨x, r1, rfl, gx, tx, hv⟩ := VT_c hv
      have hw := VT_len hv
      simp only [List.length_cons] at hs hl
      refine br_t (by show (-48 : Int32) ≤ -30; decide) ⟨fun z => absurd rfl z, fun _ => ?_⟩
      have e1 : nI (3 + (x :: r1).length) - 1 = nI (3 + r1.length) := nI_pred (3 + r1.length)
      rw [e1, nI_clamp (n := 3 + r1.length) (by omega)]
      have ex : I' 17 (3 + r1.length) = iI x := hst.1
      rw [ex]
      have e2 : (1 : Int32) - iI x = iI (1 - x) := iI_sub 1 x
      rw [e2]
      exact ⟨pk_in (3 + r1.length) 128 (by omega), pk_in (3 + r1.length) 128 (by omega), ih _ ⟨pj_u_e, SC_u (Nat.le_refl _) hst.2⟩ (f17 _ _)⟩
    · obtain ⟨z, r1, rfl, gz, tz, hv⟩ := VT_c hv
      obtain ⟨y, r2, rfl, gy, ty, hv⟩ := VT_c hv
      obtain ⟨x, r3, rfl, gx, tx, hv⟩ := VT_c hv
      have hw := VT_len hv
      simp only [List.length_cons] at hs hl
      refine br_t (by show (-45 : Int32) ≤ -30; decide) ⟨fun _ => ⟨fun c => absurd rfl c, fun _ => ?_⟩, fun c => absurd c (by show ¬ (-45 : Int32) = -48; decide)⟩
      have e1 : nI (3 + (z :: y :: x :: r3).length) + (-2) = nI (3 + r3.length + 1) := pk_m2 (3 + r3.length + 1)
      rw [e1, nI_pred, nI_1, nI_clamp (n := 3 + r3.length) (by omega), nI_clamp (n := 3 + r3.length + 1) (by omega), nI_clamp (n := 3 + r3.length + 1 + 1) (by omega)]
      have ez : I' 17 (3 + r3.length + 1 + 1) = iI z := hst.1
      have ey : I' 17 (3 + r3.length + 1) = iI y := hst.2.1
      have ex : I' 17 (3 + r3.length) = iI x := hst.2.2.1
      have x0 : iI x = 0 ↔ x = 0 := iI_eq (b := 0) gx.i ⟨by decide, by decide⟩
      rw [ez, ey, ex, x0]
      have i0 := pk_in (x := nI (3 + r3.length)) (3 + r3.length) 128 (by omega)
      have i1 := pk_in (x := nI (3 + r3.length + 1)) (3 + r3.length + 1) 128 (by omega)
      have i2 := pk_in (x := nI (3 + r3.length + 1 + 1)) (3 + r3.length + 1 + 1) 128 (by omega)
      have ev : ev1 (4, c) e (z :: y :: x :: r3) = (if x = 0 then z else y) :: r3 := rfl
      rw [ev] at ih
      refine ⟨i0, fun d => ⟨i2, i0, ?_⟩, fun d => ⟨i1, i0, ?_⟩⟩
      · rw [if_pos d] at ih
        exact ih _ ⟨pj_u_e, SC_u (Nat.le_refl _) hst.2.2.2⟩ (f17 _ _)
      · rw [if_neg d] at ih
        exact ih _ ⟨pj_u_e, SC_u (Nat.le_refl _) hst.2.2.2⟩ (f17 _ _)
    · refine br_f (by show ¬ (1 : Int32) ≤ -30; decide) (br_f (by show ¬ (1 : Int32) < 0; decide) ⟨pk_in (3 + r.length) 128 (by omega), ?_⟩)
      rw [nI_clamp (n := 3 + r.length) (by omega), nI_1]
      exact ih _ ⟨pj_u_e, SC_u (Nat.le_refl _) hst⟩ (f17 _ _)
end PRs
