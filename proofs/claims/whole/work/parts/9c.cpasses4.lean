/-! passes: the class, the whole -/
theorem firstT_all {α : Type} {f : Nat → Option α} {r t : Nat} (h : ∀ j, t ≤ j → j < t + r → f j = none) : firstT f r t = none :=
  (firstT_cong (g := fun _ => none) h).trans (firstT_none (β := Nat))
/-- what nobody wears stays unworn -/
theorem seqF_un {W : Wk} {m c : Nat} (hm : m < W.nm) (h7 : W.nm ≤ 7) : ∀ {k : Nat} {L : Ly}, (∀ i, i < W.nm → L.wor i ≠ some c) → seqF W m c k L = none
  | 0, L, h => by unfold seqF; rw [if_neg (h m hm)]
  | k + 1, L, h => by
    rw [seqF_s]
    refine firstT_all (fun t _ ht => ?_)
    obtain ⟨a, b, h1, h2, rfl⟩ := off_p (nm := W.nm) (t := t) (by omega)
    rw [sqf_e h1 h2 h7]
    cases wel W L a b with
    | false => rfl
    | true =>
      simp only
      rw [seqF_un hm h7 (k := k) (fun i hi => ?_)]
      · rfl
      · rw [chg_wor]
        split
        · exact h a (by omega)
        · split
          · exact h b h2
          · exact h i hi
section PPw
variable {n h : Nat} {Q : pj_K} {I : Nat → Nat → Int32} {J : Nat → Nat → Int64} {A : Ab}
theorem pC_q {c j : Nat} (h : qC c j = false) : pC c j = false := by
  have := qC_f h
  exact pC_f (by omega) (by omega) (by omega) (by omega) (by omega) (by omega)
/-- Passing.fewest -/
theorem s20 (hh : 12 ≤ h) {m c : Nat} (hA : AV A) (hI : InvC A I) (hm : m < A.W.nm) (hc : c < A.W.nc) (q0 : ∀ I', pj_fr qC I I' → psF A.W m c A.L 4 0 = none → Q (some (.int (-1))) (zc n, I', J)) (q1 : ∀ I' x, pj_fr qC I I' → psF A.W m c A.L 4 0 = some x → x.length ≤ 3 → (∀ i, i < x.length → I' 250 i = nI (x.getD i 0)) → Q (some (.int (nI x.length))) (zc n, I', J)) : pj_D h 20 [.ref 239, .ref 35, .int (nI m), .int (nI c)] (zc n, I, J) Q := by
  have h7 := hA.2.2.1
  have h8 := hA.2.1
  have hV := hA.2.2.2.1
  have e4 : psF A.W m c A.L 4 0 = match seqF A.W m c 0 A.L with | some x => some x | none => psF A.W m c A.L 3 1 := rfl
  refine pj_ent (g := 11) hh (t := mt_20) rfl rfl (v20_0 (pj_D_le 11) I J _ _ ?_)
  refine s77 (by decide) (by decide) (fun I1 cp => kV_i ⟨pk_in m 7 (by omega), ?_⟩)
  have l1 : LC A.W 240 A.L I1 := LC_cp h8 h7 cp hI.2.2.1
  have f1 : pj_fr qC I I1 := lcp_q (Or.inr (Or.inr (Or.inl rfl))) cp
  have i1 := InvC_q f1 hI
  have s0 : seqF A.W m c 0 A.L = if A.L.wor m = some c then some [] else none := rfl
  rw [nI_clamp (n := m) (by omega), (l1.2.2 m hm).2.2.1, wo_eq (fun d e => by have := LV_c hV hm e; omega) (by omega)]
  refine ⟨fun hn => ?_, fun e => ?_⟩
  rotate_left
  · rw [s0, if_pos e] at e4
    exact q1 I1 [] f1 e4 (by decide) (fun i hi => absurd hi (Nat.not_lt_zero _))
  rw [s0, if_neg hn] at e4
  have e4 : psF A.W m c A.L 4 0 = psF A.W m c A.L 3 1 := e4
  have en : seqF A.W m c 0 A.L = none := by rw [s0, if_neg hn]
  rw [i1.2.1.1.2.2.2.1]
  refine s76 (by decide) (by decide) h7 (kI_i ?_)
  have ew : ff (fun k => decide (I1 (240 + 5) k = nI c)) A.W.nm 0 = ff (fun k => decide (A.L.wor k = some c)) A.W.nm 0 := ff_cong (fun j _ hj => by
    have hj : j < A.W.nm := by omega
    rw [(l1.2.2 j hj).2.2.1]
    exact decide_eq_decide.mpr (wo_eq (fun d e => by have := LV_c hV hj e; omega) (by omega)))
  rw [ew]
  cases e : ff (fun k => decide (A.L.wor k = some c)) A.W.nm 0 with
  | none =>
    refine ⟨fun z => absurd rfl z, fun _ => q0 I1 f1 ?_⟩
    have un : ∀ i, i < A.W.nm → A.L.wor i ≠ some c := fun i hi => of_decide_eq_false (ff_none e i (Nat.zero_le _) (by omega))
    rw [e4]
    unfold psF
    rw [seqF_un hm h7 un]
    unfold psF
    rw [seqF_un hm h7 un]
    unfold psF
    rw [seqF_un hm h7 un]
    rfl
  | some w =>
    refine ⟨fun _ => ?_, fun z => ?_⟩
    rotate_left
    · have := (wo_none (o := some w) (fun c' e' => by cases e'; have := ff_some e; omega)).mp z
      cases this
    have f2 : pj_fr qC I (pj_cp I1 241 248 0 0 8) := pj_fr_tr f1 (fun c j hc => cp_n (by have := qC_f hc; omega))
    have l2 : LC A.W 240 A.L (pj_cp I1 241 248 0 0 8) := LC_fr (fun c j h1 h2 => cp_n (by omega)) l1
    have k2 : ∀ c, c < A.W.nc → pj_cp I1 241 248 0 0 8 248 c = nI (A.L.lin c) := fun c hc => (cp_in (by omega)).trans (l1.2.1 c hc).1
    generalize pj_cp I1 241 248 0 0 8 = I2 at f2 l2 k2
    suffices cnt : ∀ r k I', r + k = 3 → pj_fr qC I I' → LC A.W 240 A.L I' → KN A.W A.L I' → seqF A.W m c k A.L = none → psF A.W m c A.L 4 0 = psF A.W m c A.L r (k + 1) → pj_R (pj_D 11) ta mc_20 false Q 93 [some (.ref 239), none, some (.int (nI m)), some (.int (nI c)), some (.int (nI (k + 1)))] [] (zc n) I' J 0 0 by
      suffices loop : ∀ s k I', s + k = 224 → pj_fr qC I I' → LC A.W 240 A.L I' → (∀ c, c < A.W.nc → I' 248 c = nI (A.L.lin c)) → (∀ j, j < k → I' 249 j = -2000000) → pj_R (pj_D 11) ta mc_20 false Q 65 [some (.ref 239), none, some (.int (nI m)), some (.int (nI c)), some (.int (nI k))] [] (zc n) I' J 0 0 from loop 224 0 I2 (by omega) f2 l2 k2 (fun j hj => absurd hj (Nat.not_lt_zero _))
      intro s
      induction s with
      | zero =>
        intro k I' hk f3 l3 k3 z3
        obtain rfl : k = 224 := by omega
        refine v20_65 (pj_D_le 11) I' J _ _ _ (br_t (nI_le (Nat.le_refl _) (by omega)) (cnt 3 0 I' rfl f3 l3 ⟨k3, fun i x s h1 h2 h3 => Or.inl (z3 _ (by omega))⟩ en e4))
      | succ s ih =>
        intro k I' hk f3 l3 k3 z3
        refine v20_65 (pj_D_le 11) I' J _ _ _ (br_f (nI_ge (by omega) (by omega)) ⟨pk_in k 224 (by omega), ?_⟩)
        rw [nI_clamp (n := k) (by omega), nI_1 k]
        refine ih (k + 1) _ (by omega) (pj_fr_tr f3 (fun c j hc => pj_u_n (by have := qC_f hc; omega))) (LC_fr (fun c j h1 h2 => pj_u_n (by omega)) l3) (fun c hc => (pj_u_n (by decide)).trans (k3 c hc)) (fun j hj => ?_)
        by_cases e : j = k
        · rw [e]; exact pj_u_e
        · exact (pj_u_j e).trans (z3 j (by omega))
    intro r
    induction r with
    | zero =>
      intro k I' hk f3 l3 k3 en ep
      obtain rfl : k = 3 := by omega
      exact v20_93 (pj_D_le 11) I' J _ _ _ (br_t (by decide) (q0 I' f3 (ep.trans rfl)))
    | succ r ih =>
      intro k I' hk f3 l3 k3 en ep
      have i3 := InvC_q f3 hI
      refine v20_93 (pj_D_le 11) I' J _ _ _ (br_f (nI_nlt (a := 3) (by omega) (by omega)) ?_)
      have ep : psF A.W m c A.L 4 0 = match seqF A.W m c (k + 1) A.L with | some x => some x | none => psF A.W m c A.L r (k + 1 + 1) := ep
      have t := s21 (n := n) (J := J) (A := A) hA hm hc k (h := 11) (Q := (kI n fun v1 I1 J1 => ((v1 = 0 → pj_R (pj_D 11) ta mc_20 false Q 93 [some (.ref 239), none, some (.int (nI m)), some (.int (nI c)), some (.int (nI (k + 1) + 1))] [] (zc n) I1 J1 0 0) ∧ (¬ v1 = 0 → Q (some (.int (nI (k + 1)))) (zc n, I1, J1))))) (d := 0) (by omega) (by omega) i3.2.1 l3 ⟨rfl, rfl, rfl, rfl, rfl⟩ hV k3 en (fun I4 f4 l4 k4 _ e5 => kI_i ⟨fun _ => ?_, fun z => absurd rfl z⟩) (fun I4 x f4 l4 k4 _ e5 x4 => kI_i ⟨fun z => absurd z (by decide), fun _ => ?_⟩)
      · rw [Nat.zero_add] at t
        exact t
      · rw [nI_1 (k + 1)]
        rw [e5] at ep
        exact ih (k + 1) I4 (by omega) (pj_fr_tr f3 (pj_fr_w f4 (fun c j hc => pC_q hc))) l4 k4 e5 ep
      · rw [e5] at ep
        have el := seqF_len e5
        have q := q1 I4 x (pj_fr_tr f3 (pj_fr_w f4 (fun c j hc => pC_q hc))) ep (by omega) (fun i hi => by
          have := x4 i (by omega)
          rw [Nat.zero_add] at this
          exact this)
        rw [el] at q
        exact q
/-- passes -/
theorem c136 (hh : 13 ≤ h) {p r s : Int32} (hA : AV A) (hI : InvC A I) (q : ∀ I', pj_fr qC I I' → Q (some (.int (passesV A p r s))) (zc n, I', J)) : pj_D h 136 [.ref 2, .int p, .int r, .int s] (zc n, I, J) Q := by
  have h7 := hA.2.2.1
  have h8 := hA.2.1
  unfold passesV at q
  refine pj_ent (g := 12) hh (t := mt_136) rfl rfl (v136_0 (pj_D_le 12) I J _ _ _ ?_)
  refine s131 (by decide) hI.2.1.1 hI.2.2.1 (fun m hm e ht => kI_i ⟨fun z => absurd z (by decide), fun _ => ?_⟩) (fun z => kI_i ⟨fun _ => ?_, fun z => absurd rfl z⟩)
  rotate_left
  · rw [tix_n h7 z] at q
    exact q I pj_fr_rf
  subst e
  rw [tix_s h7 hm ht] at q
  simp only at q
  refine s120 (by decide) hI.2.1.1.2.2.1 h8 (fun c hc e => kI_i ⟨fun z => absurd z (by decide), fun _ => ?_⟩) (fun z => kI_i ⟨fun _ => ?_, fun z => absurd rfl z⟩)
  rotate_left
  · rw [ix_n (by omega) z] at q
    exact q I pj_fr_rf
  subst e
  rw [ix_s hc (by omega)] at q
  simp only at q
  have lo : s < -1 → ∀ x : List Nat, x.length ≤ 3 → (if s = -1 then nI x.length else match ix x.length s with | none => -1 | some k => nI (x.getD k 0)) = -1 := fun z x hx => by
    rw [if_neg (fun e => by rw [e] at z; exact absurd z (by decide)), ix_n (by omega) (fun k hk e => ?_)]
    rw [e] at z
    exact absurd z (fun y => by
      have : nI k < 0 := Int32.lt_trans y (by decide)
      exact nI_nlt (a := k) (b := 0) (Nat.zero_le _) (by omega) this)
  have hi : ¬ s < 3 → ∀ x : List Nat, x.length ≤ 3 → (if s = -1 then nI x.length else match ix x.length s with | none => -1 | some k => nI (x.getD k 0)) = -1 := fun z x hx => by
    rw [if_neg (fun e => by rw [e] at z; exact absurd (by decide) z), ix_n (by omega) (fun k hk e => ?_)]
    rw [e] at z
    exact z (nI_lt (b := 3) (by omega) (by decide))
  have pl : ∀ x, psF A.W m c A.L 4 0 = some x → x.length ≤ 3 := by
    have key : ∀ r k x, r + k = 4 → psF A.W m c A.L r k = some x → x.length ≤ 3 := by
      intro r
      induction r with
      | zero => intro k x _ e; cases e
      | succ r ih =>
        intro k x hk e
        unfold psF at e
        cases e2 : seqF A.W m c k A.L with
        | none => rw [e2] at e; exact ih (k + 1) x (by omega) e
        | some y =>
          rw [e2] at e
          cases e
          rw [seqF_len e2]
          omega
    exact fun x e => key 4 0 x rfl e
  have bad : (∀ x : List Nat, x.length ≤ 3 → (if s = -1 then nI x.length else match ix x.length s with | none => -1 | some k => nI (x.getD k 0)) = -1) → Q (some (.int (-1))) (zc n, I, J) := fun hb => by
    have q := q I pj_fr_rf
    cases e : psF A.W m c A.L 4 0 with
    | none => rw [e] at q; exact q
    | some x =>
      rw [e] at q
      have q : Q (some (.int (if s = -1 then nI x.length else match ix x.length s with | none => -1 | some k => nI (x.getD k 0)))) (zc n, I, J) := q
      rw [hb x (pl x e)] at q
      exact q
  refine ⟨fun z => bad (lo z), fun z1 => ⟨fun z2 => ?_, fun z => bad (hi z)⟩⟩
  refine s20 (Nat.le_refl 12) hA hI hm hc (fun I1 f1 e => kI_i ?_) (fun I1 x f1 e hx x1 => kI_i ?_)
  · have q := q I1 f1
    rw [e] at q
    refine ⟨fun y => br_t ?_ q, fun _ => q⟩
    rcases Int32.lt_or_le s (-1) with z | z
    · exact absurd z z1
    · exact z
  · have q := q I1 f1
    rw [e] at q
    simp only at q
    refine ⟨fun y => ?_, fun y => ?_⟩
    rotate_left
    · rw [if_pos y] at q; exact q
    rw [if_neg y] at q
    have s0 : ¬ s < 0 := fun z => by
      have a1 : s.toInt < 0 := Int32.lt_iff_toInt_lt.mp z
      have a2 : ¬ s.toInt < -1 := fun w => z1 (Int32.lt_iff_toInt_lt.mpr w)
      exact y (Int32.toInt_inj.mp (show s.toInt = -1 by omega))
    obtain ⟨k, hk, rfl⟩ := nI_of s0
    by_cases c1 : k < x.length
    · rw [ix_s c1 (by omega)] at q
      refine br_f (nI_ge c1 (by omega)) ⟨pk_in k 3 (by omega), ?_⟩
      rw [nI_clamp hk, x1 k c1]
      exact q
    · rw [ix_n (by omega) (fun j hj e => c1 (by rw [(nI_eq hk (by omega)).mp e]; exact hj))] at q
      exact br_t (nI_le (by omega) (by omega)) q
end PPw
