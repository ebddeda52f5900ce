/-! on: the class, whole -/
theorem and_pow (S c : Nat) : (S &&& 2 ^ c = 0) ↔ S.testBit c = false := by
  constructor
  · intro h
    have e : (S &&& 2 ^ c).testBit c = S.testBit c := by
      rw [Nat.testBit_and, Nat.testBit_two_pow, decide_eq_true rfl, Bool.and_true]
    rw [← e, h, Nat.zero_testBit]
  · intro h
    apply Nat.eq_of_testBit_eq
    intro i
    rw [Nat.testBit_and, Nat.testBit_two_pow, Nat.zero_testBit]
    by_cases d : c = i
    · rw [← d, h, Bool.false_and]
    · rw [decide_eq_false d, Bool.and_false]
section PO2
variable {n h : Nat} {Q : pj_K} {I : Nat → Nat → Int32} {J : Nat → Nat → Int64} {W : Wk} {m : Nat} {f : Nat → Nat}
theorem wS_od {k c : Nat} (e : (onL W f).wor k = some c) : ((wS (onL W f).wor k).testBit c = false) → od W f k := fun hb j d hj ej ek => by
  rw [e] at ek
  cases ek
  rw [wS_bit] at hb
  cases e2 : ff (fun j => decide ((onL W f).wor j = some c)) k 0 with
  | some i => rw [e2] at hb; cases hb
  | none =>
    have := ff_none e2 j (by omega) (by omega)
    rw [decide_eq_true ej] at this
    cases this
theorem wS_no {k c : Nat} (e : (onL W f).wor k = some c) (hb : (wS (onL W f).wor k).testBit c = true) : ¬ od W f k := fun z => by
  rw [wS_bit] at hb
  cases e2 : ff (fun j => decide ((onL W f).wor j = some c)) k 0 with
  | none => rw [e2] at hb; cases hb
  | some j =>
    have := ff_some e2
    exact z j c (by omega) (of_decide_eq_true this.2.2) e
/-- Picture.readInto -/
theorem s31 (hh : 3 ≤ h) (hT : TC m f I) (hW : WC W 5 I) (q1 : onOK W m f → ∀ I', pj_fr aC I I' → LC W 43 (onL W f) I' → I' 43 8 = 0 → Q (some (.int 1)) (zc n, I', J)) (q0 : ¬ onOK W m f → ∀ I', pj_fr aC I I' → Q (some (.int 0)) (zc n, I', J)) : pj_D h 31 [.ref 272, .ref 43, .ref 3] (zc n, I, J) Q := by
  have hW0 := hW
  obtain ⟨w1, w2, w3, w4, w5⟩ := hW
  have h16 := hT.1
  refine pj_ent (g := 2) hh (t := mt_31) rfl rfl (v31_0 (pj_D_le 2) I J ?_)
  have eS : (2 : Int32) + 2 * nI W.nc = nI (2 + 2 * W.nc) := by
    show nI 2 + nI 2 * nI W.nc = _
    rw [pk_mul, nI_add]
  have eL : nI (2 + 2 * W.nc) + 6 * nI W.nm + 1 = nI (2 + 2 * W.nc + 6 * W.nm + 1) := by
    show nI (2 + 2 * W.nc) + nI 6 * nI W.nm + 1 = _
    rw [pk_mul, nI_add, nI_1]
  rw [hT.2.1, w3, w4, eS, eL, nI_eq (by omega) (by omega)]
  refine ⟨fun c => q0 (fun z => c z.1) I pj_fr_rf, fun c => s32 (Nat.le_refl 2) hT (by omega) (kI_i ?_)⟩
  have WCf : ∀ {I' : Nat → Nat → Int32}, pj_fr aC I I' → WC W 5 I' := fun {I'} hf => ⟨w1, w2, (hf _ _ rfl).trans w3, (hf _ _ rfl).trans w4, fun k hk => ⟨(hf _ _ rfl).trans (w5 k hk).1, (hf _ _ rfl).trans (w5 k hk).2⟩⟩
  by_cases ck : f (m - 1) = chk f (m - 1)
  rotate_left
  · rw [decide_eq_false ck]
    exact ⟨fun z => absurd rfl z, fun _ => q0 (fun z => ck z.2.1) I pj_fr_rf⟩
  rw [decide_eq_true ck]
  refine ⟨fun _ => ?_, fun z => absurd z (by decide)⟩
  have f1 : pj_fr aC I (pj_u I 43 8 0) := pj_fr_u pj_fr_rf rfl
  have y0 := (hT.2.2 0 (by omega)).2
  have y1 := (hT.2.2 1 (by omega)).2
  refine s85t (by decide) (k := 0) (TC_a f1 hT) (by omega) (kI_i (s85t (by decide) (k := 1) (TC_a f1 hT) (by omega) (kI_i ?_)))
  rw [or8 y0 y1]
  have f2 : pj_fr aC I (pj_u (pj_u I 43 8 0) 43 7 (nI (256 * f 0 + f 1))) := pj_fr_u f1 rfl
  have a7 : (pj_u (pj_u I 43 8 0) 43 7 (nI (256 * f 0 + f 1))) 43 7 = nI (onL W f).yr := pj_u_e
  have a8 : (pj_u (pj_u I 43 8 0) 43 7 (nI (256 * f 0 + f 1))) 43 8 = 0 := rfl
  refine pk_le (256 * f 0 + f 1) 999 (fun cy => ?_) (fun cy => q0 (fun z => by have : 256 * f 0 + f 1 ≤ 999 := z.2.2.1; omega) _ f2)
  generalize (pj_u (pj_u I 43 8 0) 43 7 (nI (256 * f 0 + f 1))) = I0 at f2 a7 a8
  have men : ∀ r k I', r + k = W.nm → pj_fr aC I I' → I' 43 7 = nI (onL W f).yr → I' 43 8 = 0 → (∀ j, j < W.nc → oc f j) → (∀ j, j < W.nc → I' 44 j = nI (f (3 + 2 * j)) ∧ I' 45 j = bi ((onL W f).bur j)) → (∀ j, j < k → mset W f j I' ∧ om W f j ∧ od W f j) → pj_R (pj_D 2) ta mc_31 true Q 122 [some (.ref 272), some (.ref 43), some (.ref 3), some (.int (nI (2 + 2 * W.nc))), some (.int (nI (wS (onL W f).wor k))), some (.int (nI k)), none] [] (zc n) I' J 0 0 := by
    intro r
    induction r with
    | zero =>
      intro k I' hk hf e7 e8 ho hc hm
      obtain rfl : k = W.nm := by omega
      refine v31_122 (pj_D_le 2) I' J _ _ _ ?_
      rw [(WCf hf).2.2.2.1]
      exact br_t (nI_le (Nat.le_refl _) (by omega)) (q1 ⟨c, ck, cy, ho, fun k hk => (hm k hk).2.1, fun k hk => (hm k hk).2.2⟩ I' hf ⟨e7, fun k hk => hc k hk, fun k hk => (hm k hk).1⟩ e8)
    | succ r ih =>
      intro k I' hk hf e7 e8 ho hc hm
      have hkm : k < W.nm := by omega
      have i7 := pk_in (x := nI k) k 7 (by omega)
      have e6 : nI (2 + 2 * W.nc) + 6 * nI k = nI (2 + 2 * W.nc + 6 * k) := by
        show nI (2 + 2 * W.nc) + nI 6 * nI k = _
        rw [pk_mul, nI_add]
      refine v31_122 (pj_D_le 2) I' J _ _ _ ?_
      rw [(WCf hf).2.2.2.1, e6, nI_clamp (n := k) (by omega), nI_1]
      refine br_f (nI_ge hkm (by omega)) (s34 (Nat.le_refl 2) (TC_a hf hT) (WCf hf) (fun j hj => (hc j hj).2) hkm (by omega) (fun ok I2 f2 o2 s2 => kI_i ⟨fun _ => ⟨i7, ?_⟩, fun z => absurd z (by decide)⟩) (fun no I2 f2 => kI_i ⟨fun z => absurd rfl z, fun _ => q0 (fun z => no (z.2.2.2.2.1 k hkm)) I2 (pj_fr_tr hf f2)⟩))
      have hf2 := pj_fr_tr hf f2
      have c2 : ∀ j, j < W.nc → I2 44 j = nI (f (3 + 2 * j)) ∧ I2 45 j = bi ((onL W f).bur j) := fun j hj => ⟨(o2 _ _ (by omega)).trans (hc j hj).1, (o2 _ _ (by omega)).trans (hc j hj).2⟩
      have m2 : ∀ j, j < k → mset W f j I2 ∧ om W f j ∧ od W f j := fun j hj => by
        obtain ⟨⟨p1, p2, p3, p4, p5⟩, p6⟩ := hm j hj
        exact ⟨⟨(o2 _ _ (Or.inr (by omega))).trans p1, (o2 _ _ (Or.inr (by omega))).trans p2, (o2 _ _ (Or.inr (by omega))).trans p3, (o2 _ _ (Or.inr (by omega))).trans p4, (o2 _ _ (Or.inr (by omega))).trans p5⟩, p6⟩
      have nx := fun (d : od W f k) => ih (k + 1) I2 (by omega) hf2 ((o2 _ _ (by omega)).trans e7) ((o2 _ _ (by omega)).trans e8) ho c2 (fun j hj => by
        rcases Nat.lt_or_ge j k with z | z
        · exact m2 j z
        · obtain rfl : j = k := by omega
          exact ⟨s2, ok, d⟩)
      have es : wS (onL W f).wor (k + 1) = wS (onL W f).wor k ||| (match (onL W f).wor k with | none => 0 | some c => 2 ^ c) := rfl
      rw [es] at nx
      rw [s2.2.2.1]
      cases ew : (onL W f).wor k with
      | none =>
        rw [ew] at nx
        have z1 : nI (wS (onL W f).wor k) &&& 0 = 0 := by
          show nI (wS (onL W f).wor k) &&& nI 0 = _
          rw [nb_and, Nat.and_zero]; rfl
        have z2 : nI (wS (onL W f).wor k) ||| 0 = nI (wS (onL W f).wor k ||| 0) := nb_or _ 0
        rw [z1, z2]
        exact ⟨fun z => absurd rfl z, fun _ => br_t rfl (nx (fun j c hj a b => by rw [ew] at b; cases b))⟩
      | some c =>
        rw [ew] at nx
        simp only at nx
        have hc8 := (ok.2.2 c ew).1
        have hSb : wS (onL W f).wor k < 256 := wS_lt (fun j d hj e => by have := ((hm j hj).2.1.2.2 d e).1; omega)
        have hp : (2 : Nat) ^ c < 2 ^ 8 := Nat.pow_lt_pow_right (by decide) (by omega)
        refine ⟨fun _ => ⟨i7, ?_⟩, fun z => ?_⟩
        · have e1 : (1 : Int32) <<< (wo (some c) &&& 31) = nI (2 ^ c) := sh_1 (by omega)
          have hle : wS (onL W f).wor k &&& 2 ^ c < 2 ^ 31 := Nat.lt_of_le_of_lt Nat.and_le_left (by omega)
          have e0 : nI (wS (onL W f).wor k &&& 2 ^ c) = 0 ↔ wS (onL W f).wor k &&& 2 ^ c = 0 := nI_eq (b := 0) hle (by decide)
          rw [e1, nb_and, nb_or, e0, and_pow]
          refine ⟨fun z => nx (wS_od ew z), fun z => q0 (fun y => wS_no ew ?_ (y.2.2.2.2.2 k hkm)) I2 hf2⟩
          cases e : (wS (onL W f).wor k).testBit c with
          | true => rfl
          | false => exact absurd e z
        · have := (wo_none (o := some c) (fun c' e' => by cases e'; omega)).mp z
          cases this
  suffices coats : ∀ r k I', r + k = W.nc → pj_fr aC I I' → I' 43 7 = nI (onL W f).yr → I' 43 8 = 0 → (∀ j, j < k → oc f j) → (∀ j, j < k → I' 44 j = nI (f (3 + 2 * j)) ∧ I' 45 j = bi ((onL W f).bur j)) → pj_R (pj_D 2) ta mc_31 true Q 80 [some (.ref 272), some (.ref 43), some (.ref 3), some (.int (nI (2 + 2 * W.nc))), some (.int (nI k)), none, none] [] (zc n) I' J 0 0 from coats W.nc 0 I0 (by omega) f2 a7 a8 (fun j hj => by omega) (fun j hj => by omega)
  intro r
  induction r with
  | zero =>
    intro k I' hk hf e7 e8 ho hc
    obtain rfl : k = W.nc := by omega
    refine v31_80 (pj_D_le 2) I' J _ _ ?_
    rw [(WCf hf).2.2.1]
    exact br_t (nI_le (Nat.le_refl _) (by omega)) (men W.nm 0 I' (by omega) hf e7 e8 ho hc (fun j hj => by omega))
  | succ r ih =>
    intro k I' hk hf e7 e8 ho hc
    have hkc : k < W.nc := by omega
    have e2 : (2 : Int32) + 2 * nI k = nI (2 + 2 * k) := by
      show nI 2 + nI 2 * nI k = _
      rw [pk_mul, nI_add]
    refine v31_80 (pj_D_le 2) I' J _ _ ?_
    rw [(WCf hf).2.2.1, e2, nI_1]
    refine br_f (nI_ge hkc (by omega)) (s33 (Nat.le_refl 2) (TC_a hf hT) (by omega) (by omega) (fun ok I2 f2 o2 s1 s2 => kI_i ⟨fun _ => ?_, fun z => absurd z (by decide)⟩) (fun no I2 f2 => kI_i ⟨fun z => absurd rfl z, fun _ => q0 (fun z => no (z.2.2.2.1 k hkc)) I2 (pj_fr_tr hf f2)⟩))
    refine ih (k + 1) I2 (by omega) (pj_fr_tr hf f2) ((o2 _ _ (by omega)).trans e7) ((o2 _ _ (by omega)).trans e8) (fun j hj => ?_) (fun j hj => ?_)
    · rcases Nat.lt_or_ge j k with z | z
      · exact ho j z
      · obtain rfl : j = k := by omega
        exact ok
    · rcases Nat.lt_or_ge j k with z | z
      · exact ⟨(o2 _ _ (Or.inr (by omega))).trans (hc j z).1, (o2 _ _ (Or.inr (by omega))).trans (hc j z).2⟩
      · obtain rfl : j = k := by omega
        exact ⟨s1, s2⟩
end PO2
/-- on: the tape is taken; what it tells stands, or a refusal -/
def Ab.clr (A : Ab) : Ab := A.sT (0, A.tp.2)
def Ab.onA (A : Ab) : Ab := ((0, A.tp.2), A.W, onL A.W A.tp.2, (0, A.kp.2), (0, A.hs.2), A.rf, A.sd, A.ft, A.rw, A.pc)
noncomputable def onR (A : Ab) : Ab × Int32 := @ite (Ab × Int32) (onOK A.W A.tp.1 A.tp.2) (Classical.propDecidable _) (A.onA, 1) (A.clr.ref 5, 0)
theorem AV_onR {A : Ab} (hA : AV A) : AV (onR A).1 := by
  unfold onR
  by_cases c : onOK A.W A.tp.1 A.tp.2
  · rw [if_pos c]
    obtain ⟨h1, h2, h3, h4, h5, h6, h7, h8, h9, h10⟩ := hA
    exact ⟨h1, h2, h3, onOK_LV c, Nat.zero_le _, fun i hi => absurd hi (Nat.not_lt_zero _), Nat.zero_le _, fun i hi => absurd hi (Nat.not_lt_zero _), fun i j _ hj => absurd hj (Nat.not_lt_zero _), h10⟩
  · rw [if_neg c]
    exact hA
section PO3
variable {n h : Nat} {Q : pj_K} {I : Nat → Nat → Int32} {J : Nat → Nat → Int64} {A : Ab}
theorem aC_q {c j : Nat} (h : qC c j = false) : aC c j = false := by
  have := qC_f h
  exact aC_f (by omega)
theorem InvC_clr (hI : InvC A I) : InvC A.clr (pj_u I 3 1 0) :=
  InvC_tp hI (fun c j h1 h2 _ => pj_u_n h1) ⟨Nat.zero_le _, pj_u_e, fun k hk => by cases hk⟩
/-- PegCoats.on -/
theorem c156 (hh : 4 ≤ h) (hA : AV A) (hI : InvC A I) (q : ∀ I', cF I I' → InvC (onR A).1 I' → Q (some (.int (onR A).2)) (zc n, I', J)) : pj_D h 156 [.ref 2] (zc n, I, J) Q := by
  refine pj_ent (g := 3) hh (t := mt_156) rfl rfl (v156_0 (pj_D_le 3) I J ?_)
  unfold onR at q
  refine s31 (Nat.le_refl 3) hI.1 hI.2.1.1 (fun ok I1 f1 L1 e8 => kI_i ?_) (fun no I1 f1 => kI_i ?_)
  · rw [if_pos ok] at q
    have hI1 := InvC_q (pj_fr_w f1 (fun c j hc => aC_q hc)) hI
    refine s86 (by decide) (kV_i ⟨fun _ => ?_, fun z => absurd z (by decide)⟩)
    have hI2 := InvC_clr hI1
    have L2 : LC A.W 43 (onL A.W A.tp.2) (pj_u I1 3 1 0) := LC_fr (fun c j h1 h2 => pj_u_n (by omega)) L1
    have e2 : (pj_u I1 3 1 0) 43 8 = 0 := (pj_u_n (by decide)).trans e8
    have m2 : cF I (pj_u I1 3 1 0) := cF_u (by decide) (fun c j hc => f1 c j (aC_f (by omega)))
    generalize pj_u I1 3 1 0 = I2 at hI2 L2 e2 m2
    refine s77 (by decide) (a := 35) (b := 43) (by decide) (fun I3 hc => kV_i (s9 (by decide) (kV_i ?_)))
    have fr : ∀ c j, c < 35 ∨ 42 < c → I3 c j = I2 c j := fun c j hcj => hc.2.2.2.2.2.2.2.2.2 c j (lS_i (by omega))
    have L3 := LC_cp hA.2.1 hA.2.2.1 hc L2
    have k8 : I3 35 8 = nI 0 := hc.2.2.2.2.2.2.2.2.1.trans e2
    generalize hX : pj_u I3 59 1 0 = X
    have x : ∀ c j, c ≠ 59 → X c j = I3 c j := fun c j hc => by rw [← hX]; exact pj_u_n hc
    have g : ∀ c j, (c < 35 ∨ 42 < c) → c ≠ 59 → X c j = I2 c j := fun c j h1 h2 => (x c j h2).trans (fr c j h1)
    obtain ⟨nx, c1, c2, c3, c4⟩ := hI2.2.2.2.2.1
    refine q X (cF_tr m2 (fun c j hc => g c j (by omega) (by omega))) (InvC_ex (A' := A.onA) hI2 rfl (Or.inl ⟨rfl, fun c j hc => g c j (by omega) (by omega)⟩) (fun c j h1 h2 => g c j (by omega) (by omega)) (Or.inr (LC_fr (fun c j h1 h2 => x c j (by omega)) L3)) (Or.inr ⟨Nat.zero_le _, (x _ _ (by decide)).trans k8, fun i hi => by cases hi⟩) (Or.inr ⟨nx, c1, ?_, ?_, fun i hi => by cases hi⟩) (Or.inl ⟨rfl, fun j => g _ _ (by omega) (by decide)⟩) (Or.inl ⟨rfl, g _ _ (by omega) (by decide)⟩) (Or.inl ⟨rfl, g _ _ (by omega) (by decide), g _ _ (by omega) (by decide)⟩) (Or.inl ⟨rfl, g _ _ (by omega) (by decide), fun j => g _ _ (by omega) (by decide)⟩) (Or.inl ⟨rfl, fun c j hc => g c j (by omega) (by omega)⟩) (fun j => g _ _ (by omega) (by decide)))
    · rw [← hX, pj_u_j (by decide), fr 59 2 (by omega)]; exact c2
    · rw [← hX, pj_u_e]; rfl
  · rw [if_neg no] at q
    have hI1 := InvC_q (pj_fr_w f1 (fun c j hc => aC_q hc)) hI
    refine s86 (by decide) (kV_i ⟨fun z => absurd rfl z, fun _ => ?_⟩)
    exact c114 (by decide) (k := 5) (by decide) (InvC_clr hI1) (fun I3 f3 hI3 => kI_i ⟨by decide, q I3 (cF_tr (cF_u (by decide) (fun c j hc => f1 c j (aC_f (by omega)))) f3) hI3⟩)
end PO3
