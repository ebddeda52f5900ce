/-! match: the class, whole -/
section PMb
variable {n h : Nat} {Q : pj_K} {I : Nat → Nat → Int32} {J : Nat → Nat → Int64} {A : Ab}
theorem mC_f {c j : Nat} (h : c < 223 ∨ 238 < c) (h1 : c ≠ 16) (h2 : c ≠ 17) : mC c j = false := by
  unfold mC
  rw [rg_l h, beq_eq_false_iff_ne.mpr h1, beq_eq_false_iff_ne.mpr h2]
  rfl
theorem cS_mC {I' : Nat → Nat → Int32} (h : pj_fr cS I I') : pj_fr mC I I' := pj_fr_w h (fun c j hc => by
  unfold mC at hc
  simp only [Bool.or_eq_false_iff] at hc
  unfold cS
  rw [hc.1.1, hc.1.2]
  rfl)
/-- Matching.weigh -/
theorem s13 (hh : 4 ≤ h) (hA : AV A) (hI : InvC A I) (q : ∀ I', pj_fr mC I I' → GT A I' → (∀ i, i ≤ A.W.nm → BT A i I') → Q none (zc n, I', J)) : pj_D h 13 [.ref 221, .ref 35] (zc n, I, J) Q := by
  have h7 := hA.2.2.1
  have h8 := hA.2.1
  have hV := hA.2.2.2.1
  have p8 : 2 ^ A.W.nc ≤ 256 := Nat.pow_le_pow_right (n := 2) (by decide) h8
  have inv : ∀ {I' : Nat → Nat → Int32}, pj_fr mC I I' → InvC A I' := fun hf => InvC_q (pj_fr_w hf (fun c j hc => mC_q hc)) hI
  refine pj_ent (g := 3) hh (t := mt_13) rfl rfl (v13_0 (pj_D_le 3) I J ?_)
  -- the sums, from the last man on
  have sums : ∀ r i I', r = i → i ≤ A.W.nm → pj_fr mC I I' → GT A I' → (∀ j, i ≤ j → j ≤ A.W.nm → BT A j I') → pj_R (pj_D 3) ta mc_13 false Q 159 [some (.ref 221), none, some (.int (nI (2 ^ A.W.nc))), some (.int (nI i - 1)), none] [] (zc n) I' J 0 0 := by
    intro r
    induction r with
    | zero =>
      intro i I' hr hi hf hG hB
      subst hr
      exact v13_159 (pj_D_le 3) I' J _ _ (br_t (by decide) (q I' hf hG (fun j hj => hB j (Nat.zero_le _) hj)))
    | succ r ih =>
      intro i I' hr hi hf hG hB
      obtain rfl : i = r + 1 := hr.symm
      rw [nI_pred]
      refine v13_159 (pj_D_le 3) I' J _ _ (br_f (nI_pos (by omega)) ?_)
      suffices setsL : ∀ s S I', s + S = 2 ^ A.W.nc → pj_fr mC I I' → GT A I' → (∀ j, r + 1 ≤ j → j ≤ A.W.nm → BT A j I') → (∀ T, T < S → popc T ≤ r → I' (231 + r) T = nI (mb A.W A.L (A.W.nm - r) r T)) → pj_R (pj_D 3) ta mc_13 false Q 166 [some (.ref 221), none, some (.int (nI (2 ^ A.W.nc))), some (.int (nI r)), some (.int (nI S))] [] (zc n) I' J 0 0 from setsL (2 ^ A.W.nc) 0 I' (by omega) hf hG hB (fun T hT => by omega)
      intro s
      induction s with
      | zero =>
        intro S I' hS hf hG hB hb
        obtain rfl : S = 2 ^ A.W.nc := by omega
        refine v13_166 (pj_D_le 3) I' J _ _ _ (br_t (nI_le (Nat.le_refl _) (by omega)) ?_)
        have e1 : nI r + (-1) = nI r - 1 := by rw [Int32.sub_eq_add_neg]
        rw [e1]
        refine ih r I' rfl (by omega) hf hG (fun j h1 h2 => ?_)
        rcases Nat.lt_or_ge r j with z | z
        · exact hB j z h2
        · obtain rfl : j = r := by omega
          exact fun T h3 h4 => hb T h3 h4
      | succ s ihs =>
        intro S I' hS hf hG hB hb
        have hS2 : S < 2 ^ A.W.nc := by omega
        obtain ⟨z1, z2⟩ := z230 r (by omega)
        refine v13_166 (pj_D_le 3) I' J _ _ _ (br_f (nI_ge (by omega) (by omega)) (s54 (by decide) (by omega) (kI_i ?_)))
        have pb : popc S ≤ 8 := cu_le _ _
        rw [nI_1 S]
        refine pk_lt r (popc S) (fun c => ?_) (fun c => ?_)
        · exact ihs (S + 1) I' (by omega) hf hG hB (fun T h1 h2 => hb T (by
            rcases Nat.lt_or_ge T S with z | z
            · exact z
            · obtain rfl : T = S := by omega
              omega) h2)
        · rw [nI_clamp (n := r) (by omega), z1]
          show vp_in _ 8 ∧ _ ∧ pj_D 3 14 [.ref 221, .int (nI r), .int (nI S)] (zc n, I', J) (kI n fun v2 I2 J2 => (Nat.beq (zK (231 + r)) 13 = true ∧ vp_in _ (zL n (231 + r)) ∧ pj_R (pj_D 3) ta mc_13 false Q 166 [some (.ref 221), none, some (.int (nI (2 ^ A.W.nc))), some (.int (nI r)), some (.int (nI (S + 1)))] [] (zc n) (pj_u I2 (231 + r) (nI S).toNatClampNeg v2) J2 0 0))
          rw [z2, z230L n r (by omega), nI_clamp (n := S) (by omega)]
          refine ⟨pk_in r 8 (by omega), rfl, s14 (by decide) hA (inv hf).2.1.1 hG (hB (r + 1) (Nat.le_refl _) (by omega)) (by omega) hS2 c (kI_i ⟨rfl, pk_in S 256 (by omega), ?_⟩)⟩
          refine ihs (S + 1) _ (by omega) (pj_fr_u hf (mC_t (by omega) (by omega))) (fun i c h1 h2 => (pj_u_n (by omega)).trans (hG i c h1 h2)) (fun j h1 h2 T h3 h4 => (pj_u_n (by omega)).trans (hB j h1 h2 T h3 h4)) (fun T h1 h2 => ?_)
          by_cases z : T = S
          · rw [z, pj_u_e]
          · rw [pj_u_j z]; exact hb T (by omega) h2
  have zeros : ∀ s S I', s + S = 2 ^ A.W.nc → pj_fr mC I I' → GT A I' → (∀ T, T < S → I' (231 + A.W.nm) T = 0) → pj_R (pj_D 3) ta mc_13 false Q 123 [some (.ref 221), none, some (.int (nI (2 ^ A.W.nc))), some (.int (nI S)), none] [] (zc n) I' J 0 0 := by
    intro s
    induction s with
    | zero =>
      intro S I' hS hf hG hz
      obtain rfl : S = 2 ^ A.W.nc := by omega
      refine v13_123 (pj_D_le 3) I' J _ _ ?_
      rw [(inv hf).2.1.1.2.2.2.1]
      refine br_t (nI_le (Nat.le_refl _) (by omega)) (sums A.W.nm A.W.nm I' rfl (Nat.le_refl _) hf hG (fun j h1 h2 T h3 _ => ?_))
      obtain rfl : j = A.W.nm := by omega
      rw [hz T h3, Nat.sub_self]
      rfl
    | succ s ih =>
      intro S I' hS hf hG hz
      obtain ⟨z1, z2⟩ := z230 A.W.nm (by omega)
      refine v13_123 (pj_D_le 3) I' J _ _ ?_
      rw [(inv hf).2.1.1.2.2.2.1, nI_clamp (n := A.W.nm) (by omega), z1]
      show _ ∧ (_ → vp_in _ 8 ∧ _ ∧ Nat.beq (zK (231 + A.W.nm)) 13 = true ∧ vp_in _ (zL n (231 + A.W.nm)) ∧ pj_R (pj_D 3) ta mc_13 false Q 123 [some (.ref 221), none, some (.int (nI (2 ^ A.W.nc))), some (.int (nI S + 1)), none] [] (zc n) (pj_u I' (231 + A.W.nm) (nI S).toNatClampNeg 0) J 0 0)
      rw [z2, z230L n A.W.nm (by omega), nI_clamp (n := S) (by omega), nI_1]
      refine br_f (nI_ge (by omega) (by omega)) ⟨pk_in A.W.nm 8 (by omega), rfl, rfl, pk_in S 256 (by omega), ?_⟩
      refine ih (S + 1) _ (by omega) (pj_fr_u hf (mC_t (by omega) (by omega))) (fun i c h1 h2 => (pj_u_n (by omega)).trans (hG i c h1 h2)) (fun T hT => ?_)
      by_cases z : T = S
      · rw [z, pj_u_e]
      · rw [pj_u_j z]; exact hz T (by omega)
  suffices men : ∀ r i I', r + i = A.W.nm → pj_fr mC I I' → (∀ j c, j < i → c < A.W.nc → I' (223 + j) c = nI (gn A.W A.L j c)) → pj_R (pj_D 3) ta mc_13 false Q 2 [some (.ref 221), some (.ref 35), some (.int (nI i)), none, none] [] (zc n) I' J 0 0 from men A.W.nm 0 I (by omega) pj_fr_rf (fun j c hj => by omega)
  intro r
  induction r with
  | zero =>
    intro i I' hi hf hg
    obtain rfl : i = A.W.nm := by omega
    refine v13_2 (pj_D_le 3) I' J _ ?_
    rw [(inv hf).2.1.1.2.2.2.1, (inv hf).2.1.1.2.2.1, sh_1 (by omega)]
    exact br_t (nI_le (Nat.le_refl _) (by omega)) (zeros (2 ^ A.W.nc) 0 I' (by omega) hf hg (fun T hT => by omega))
  | succ r ih =>
    intro i I' hi hf hg
    have him : i < A.W.nm := by omega
    refine v13_2 (pj_D_le 3) I' J _ ?_
    rw [(inv hf).2.1.1.2.2.2.1]
    refine br_f (nI_ge him (by omega)) ?_
    suffices coats : ∀ s c I', s + c = A.W.nc → pj_fr mC I I' → (∀ j c, j < i → c < A.W.nc → I' (223 + j) c = nI (gn A.W A.L j c)) → (∀ d, d < c → I' (223 + i) d = nI (gn A.W A.L i d)) → pj_R (pj_D 3) ta mc_13 false Q 15 [some (.ref 221), some (.ref 35), some (.int (nI i)), some (.int (nI c)), none] [] (zc n) I' J 0 0 from coats A.W.nc 0 I' (by omega) hf hg (fun d hd => by omega)
    intro s
    induction s with
    | zero =>
      intro c I' hc hf hg hd
      obtain rfl : c = A.W.nc := by omega
      refine v13_15 (pj_D_le 3) I' J _ _ ?_
      rw [(inv hf).2.1.1.2.2.1, nI_1 i]
      refine br_t (nI_le (Nat.le_refl _) (by omega)) (ih (i + 1) I' (by omega) hf (fun j c hj hc => ?_))
      rcases Nat.lt_or_ge j i with z | z
      · exact hg j c z hc
      · obtain rfl : j = i := by omega
        exact hd c hc
    | succ s ihc =>
      intro c I' hc hf hg hd
      have hcn : c < A.W.nc := by omega
      obtain ⟨z1, z2⟩ := z222 i (by omega)
      have zl := z222L n i (by omega)
      have iI7 := pk_in (x := nI i) i 7 (by omega)
      have ic8 := pk_in (x := nI c) c 8 (by omega)
      refine v13_15 (pj_D_le 3) I' J _ _ ?_
      rw [(inv hf).2.1.1.2.2.1, nI_clamp (n := i) (by omega), z1, nI_clamp (n := c) (by omega), nI_1 c]
      simp only [Option.getD_some]
      rw [z2, zl]
      refine br_f (nI_ge hcn (by omega)) ⟨iI7, rfl, rfl, ic8, iI7, ?_⟩
      have f2 : pj_fr mC I (pj_u I' (223 + i) c 0) := pj_fr_u hf (mC_t (by omega) (by omega))
      have hX := inv f2
      have nx : ∀ (I3 : Nat → Nat → Int32) x, pj_fr mC I I3 → (∀ a b, a ≠ 223 + i → a ≠ 16 → a ≠ 17 → I3 a b = I' a b) → (∀ b, b ≠ c → I3 (223 + i) b = I' (223 + i) b) → I3 (223 + i) c = nI x → x = gn A.W A.L i c → pj_R (pj_D 3) ta mc_13 false Q 15 [some (.ref 221), some (.ref 35), some (.int (nI i)), some (.int (nI (c + 1))), none] [] (zc n) I3 J 0 0 := fun I3 x f3 o1 o2 e3 ex => by
        refine ihc (c + 1) I3 (by omega) f3 (fun j d hj hd2 => (o1 _ _ (by omega) (by omega) (by omega)).trans (hg j d hj hd2)) (fun d hd2 => ?_)
        by_cases z : d = c
        · rw [z, e3, ex]
        · rw [o2 d z]; exact hd d (by omega)
      have l := hX.2.2.1
      have lm := l.2.2 i him
      rw [lm.2.2.2.2, (l.2.1 c hcn).2, lm.1, lm.2.1, l.1, (l.2.1 c hcn).1]
      have zero : gn A.W A.L i c = 0 → pj_R (pj_D 3) ta mc_13 false Q 15 [some (.ref 221), some (.ref 35), some (.int (nI i)), some (.int (nI (c + 1))), none] [] (zc n) (pj_u I' (223 + i) c 0) J 0 0 := fun e => nx _ 0 f2 (fun a b h1 _ _ => pj_u_n h1) (fun b hb => pj_u_j hb) pj_u_e e.symm
      cases e1 : A.L.the i with
      | false => exact ⟨fun _ => zero (by unfold gn; rw [e1, Bool.false_and]), fun z => absurd rfl z⟩
      | true =>
        refine ⟨fun z => absurd z (by decide), fun _ => ⟨ic8, ?_⟩⟩
        cases e2 : A.L.bur c with
        | true => exact ⟨fun _ => zero (by unfold gn; rw [e1, e2]; rfl), fun z => absurd z (by decide)⟩
        | false =>
          refine ⟨fun z => absurd rfl z, fun _ => ⟨iI7, iI7, ic8, ?_⟩⟩
          have a1 := hV.2.2.1 i him
          have a2 := hV.2.1 c hcn
          have a3 := hV.1
          refine s105 (by decide) hX.2.1 hA.1 hcn (by omega) (by omega) (by omega) (by omega) (fun I3 f3 => kI_i ⟨iI7, rfl, rfl, ic8, ?_⟩)
          have eg : gn A.W A.L i c = (wml A.W A.L i c).toNat := by unfold gn; rw [e1, e2]; rfl
          have gb := wml_b hA him hcn
          have ev : (if 0 < iI (wm A.W (A.L.siz i) (A.L.age i) A.L.yr c (A.L.lin c)) then iI (wm A.W (A.L.siz i) (A.L.age i) A.L.yr c (A.L.lin c)) else 0) = nI (gn A.W A.L i c) := by
            rw [eg]
            show (if 0 < iI (wml A.W A.L i c) then iI (wml A.W A.L i c) else 0) = _
            have p0 : 0 < iI (wml A.W A.L i c) ↔ 0 < wml A.W A.L i c := iI_lt (a := 0) ⟨by decide, by decide⟩ gb.i
            by_cases z : 0 < wml A.W A.L i c
            · rw [if_pos (p0.mpr z), ← iI_n, show (((wml A.W A.L i c).toNat : Nat) : Int) = wml A.W A.L i c by omega]
            · rw [if_neg (fun y => z (p0.mp y)), show (wml A.W A.L i c).toNat = 0 by omega]; rfl
          rw [ev]
          exact nx _ (gn A.W A.L i c) (pj_fr_u (pj_fr_tr f2 (cS_mC f3)) (mC_t (by omega) (by omega))) (fun a b h1 h2 h3 => (pj_u_n h1).trans ((f3 a b (by unfold cS; rw [beq_eq_false_iff_ne.mpr h2, beq_eq_false_iff_ne.mpr h3]; rfl)).trans (pj_u_n h1))) (fun b hb => (pj_u_j hb).trans ((f3 _ _ (cS_a (by omega))).trans (pj_u_j hb))) pj_u_e rfl
/-- Matching.firstChoice -/
theorem s18 (hh : 2 ≤ h) {i S : Nat} (hA : AV A) (hW : WC A.W 5 I) (hG : GT A I) (hB : ∀ i, i ≤ A.W.nm → BT A i I) (hi : i < A.W.nm) (hS : S < 2 ^ A.W.nc) (hp : popc S ≤ i) (q : Q (some (.int (wo (fc A.W A.L i S)))) (zc n, I, J)) : pj_D h 18 [.ref 221, .int (nI i), .int (nI S)] (zc n, I, J) Q := by
  have h7 := hA.2.2.1
  have h8 := hA.2.1
  have S256 : S < 256 := Nat.lt_of_lt_of_le hS (Nat.pow_le_pow_right (n := 2) (by decide) h8)
  obtain ⟨z1, z2⟩ := z230 (i + 1) (by omega)
  obtain ⟨x1, x2⟩ := z230 i (by omega)
  obtain ⟨y1, y2⟩ := z222 i (by omega)
  have zl := z230L n (i + 1) (by omega)
  have xl := z230L n i (by omega)
  have yl := z222L n i (by omega)
  have m1 := mb_b hA (r := A.W.nm - (i + 1)) (i := i + 1) (S := S) (by omega)
  have m0 := mb_b hA (r := A.W.nm - i) (i := i) (S := S) (by omega)
  have b1 := hB (i + 1) (by omega) S hS (by omega)
  have b0 := hB i (by omega) S hS hp
  unfold fc at q
  refine pj_ent (g := 1) hh (t := mt_18) rfl rfl (v18_0 (pj_D_le 1) I J _ _ ?_)
  rw [nI_1 i, nI_clamp (n := i + 1) (by omega), nI_clamp (n := i) (by omega), z1, x1]
  simp only [Option.getD_some]
  rw [z2, x2, zl, xl, nI_clamp (n := S) (by omega), b1, b0, nI_eq (by omega) (by omega)]
  refine ⟨pk_in (i + 1) 8 (by omega), rfl, rfl, pk_in S 256 S256, pk_in i 8 (by omega), rfl, rfl, pk_in S 256 S256, fun c => ?_, fun c => ?_⟩
  rotate_left
  · rw [if_pos c] at q
    exact q
  rw [if_neg c] at q
  suffices loop : ∀ s c, s + c = A.W.nc → Q (some (.int (wo (ff (fun c => decide (0 < gn A.W A.L i c) && !S.testBit c && decide (gn A.W A.L i c + mb A.W A.L (A.W.nm - (i + 1)) (i + 1) (S ||| 2 ^ c) = mb A.W A.L (A.W.nm - i) i S)) s c)))) (zc n, I, J) → pj_R (pj_D 1) ta mc_18 false Q 25 [some (.ref 221), some (.int (nI i)), some (.int (nI S)), some (.int (nI c))] [] (zc n) I J 0 0 from loop A.W.nc 0 (by omega) q
  intro s
  induction s with
  | zero =>
    intro c hc q
    refine v18_25 (pj_D_le 1) I J _ _ _ ?_
    rw [hW.2.2.1]
    exact br_t (nI_le (by omega) (by omega)) q
  | succ s ih =>
    intro c hc q
    have hcn : c < A.W.nc := by omega
    have gb := gn_b hA hi hcn
    have mT := mb_b hA (r := A.W.nm - (i + 1)) (i := i + 1) (S := S ||| 2 ^ c) (by omega)
    have ih := fun q => ih (c + 1) (by omega) q
    unfold ff at q
    refine v18_25 (pj_D_le 1) I J _ _ _ ?_
    rw [hW.2.2.1, nI_1 i, nI_clamp (n := i + 1) (by omega), nI_clamp (n := i) (by omega), z1, x1, y1, nI_1 c]
    simp only [Option.getD_some]
    rw [z2, x2, y2, zl, xl, yl]
    refine br_f (nI_ge hcn (by omega)) (s15 (Nat.le_refl 1) hA hG hi hcn S256 (fun d1 d2 => kI_i ⟨fun z => absurd z (by decide), fun _ => ?_⟩) (fun d => kI_i ⟨fun _ => ?_, fun z => absurd rfl z⟩))
    · rw [decide_eq_true d1, d2] at q
      have T1 : S ||| 2 ^ c < 2 ^ A.W.nc := or_pow_lt hS hcn
      have T256 : S ||| 2 ^ c < 256 := Nat.lt_of_lt_of_le T1 (Nat.pow_le_pow_right (n := 2) (by decide) h8)
      have po := popc_or (S := S) (c := c)
      rw [sh_1 (by omega), nb_or, nI_clamp (n := c) (by omega), nI_clamp (n := S ||| 2 ^ c) (by omega), nI_clamp (n := S) (by omega), hG i c hi hcn, hB (i + 1) (by omega) _ T1 (by omega), b0, nI_add, nI_eq (by omega) (by omega)]
      refine ⟨pk_in i 7 (by omega), rfl, rfl, pk_in c 8 (by omega), pk_in (i + 1) 8 (by omega), rfl, rfl, pk_in (S ||| 2 ^ c) 256 T256, pk_in i 8 (by omega), rfl, rfl, pk_in S 256 S256, ?_⟩
      by_cases z : gn A.W A.L i c + mb A.W A.L (A.W.nm - (i + 1)) (i + 1) (S ||| 2 ^ c) = mb A.W A.L (A.W.nm - i) i S
      · rw [decide_eq_true z] at q
        exact ⟨fun y => absurd z y, fun _ => q⟩
      · rw [decide_eq_false z] at q
        exact ⟨fun _ => ih q, fun y => absurd y z⟩
    · have ef : (decide (0 < gn A.W A.L i c) && !S.testBit c && decide (gn A.W A.L i c + mb A.W A.L (A.W.nm - (i + 1)) (i + 1) (S ||| 2 ^ c) = mb A.W A.L (A.W.nm - i) i S)) = false := by
        by_cases d1 : 0 < gn A.W A.L i c
        · have d2 : S.testBit c = true := by
            cases e : S.testBit c with
            | true => rfl
            | false => exact absurd ⟨d1, e⟩ d
          rw [d2]; simp
        · rw [decide_eq_false d1]; rfl
      rw [ef] at q
      exact ih q
/-- PegCoats.match -/
theorem c132 (hh : 5 ≤ h) {p : Int32} (hA : AV A) (hI : InvC A I) (q : ∀ I', pj_fr qC I I' → Q (some (.int (matchV A p))) (zc n, I', J)) : pj_D h 132 [.ref 2, .int p] (zc n, I, J) Q := by
  have h7 := hA.2.2.1
  have h8 := hA.2.1
  have inv : ∀ {I' : Nat → Nat → Int32}, pj_fr mC I I' → InvC A I' := fun hf => InvC_q (pj_fr_w hf (fun c j hc => mC_q hc)) hI
  unfold matchV at q
  refine pj_ent (g := 4) hh (t := mt_132) rfl rfl (v132_0 (pj_D_le 4) I J _ ?_)
  refine ⟨fun c => ?_, fun c => ?_⟩
  · rw [if_pos c] at q
    refine s13 (Nat.le_refl 4) hA hI (fun I1 f1 hG hB => kV_i ⟨fun z => absurd c z, fun _ => ?_⟩)
    refine pj_ent (g := 3) (Nat.le_refl 4) (t := mt_16) rfl rfl (v16_0 (pj_D_le 3) I1 J (kI_i ?_))
    have := hB 0 (Nat.zero_le _) 0 (Nat.two_pow_pos _) (by decide)
    have e : I1 231 0 = nI (mb A.W A.L A.W.nm 0 0) := this
    rw [e]
    exact q I1 (pj_fr_w f1 (fun c j hc => mC_q hc))
  · rw [if_neg c] at q
    refine s131 (by decide) hI.2.1.1 hI.2.2.1 (fun m hm e ht => kI_i ⟨fun _ => ?_, fun z => absurd z (by decide)⟩) (fun z => kI_i ⟨fun z => absurd rfl z, fun _ => ?_⟩)
    · subst e
      rw [ix_s hm (by omega)] at q
      simp only at q
      refine s13 (Nat.le_refl 4) hA hI (fun I1 f1 hG hB => kV_i ⟨fun _ => ?_, fun z => absurd z c⟩)
      refine pj_ent (g := 3) (Nat.le_refl 4) (t := mt_17) rfl rfl (v17_0 (pj_D_le 3) I1 J _ ?_)
      suffices loop : ∀ s k, s + k = m + 1 → pj_R (pj_D 3) ta mc_17 false (kI n fun v6 I6 J6 => Q (some (.int v6)) (zc n, I6, J6)) 7 [some (.ref 221), some (.int (nI m)), some (.int (nI (mtN A.W A.L k).1)), some (.int (wo (mtN A.W A.L k).2)), some (.int (nI k))] [] (zc n) I1 J 0 0 from loop (m + 1) 0 (by omega)
      intro s
      induction s with
      | zero =>
        intro k hk
        obtain rfl : k = m + 1 := by omega
        exact v17_7 (pj_D_le 3) I1 J _ _ _ _ (br_t (nI_lt (by omega) (by omega)) (kI_i (q I1 (pj_fr_w f1 (fun c j hc => mC_q hc)))))
      | succ s ih =>
        intro k hk
        have ih := ih (k + 1) (by omega)
        obtain ⟨m1, m2, -⟩ := mtN_b (W := A.W) (L := A.L) k
        have m3 := (mtN_b (W := A.W) (L := A.L) (k + 1)).2.2
        have e1 : mtN A.W A.L (k + 1) = ((mtN A.W A.L k).1 ||| (match fc A.W A.L k (mtN A.W A.L k).1 with | none => 0 | some c => 2 ^ c), fc A.W A.L k (mtN A.W A.L k).1) := rfl
        rw [e1] at ih m3
        refine v17_7 (pj_D_le 3) I1 J _ _ _ _ (br_f (nI_nlt (by omega) (by omega)) (s18 (by decide) hA (inv f1).2.1.1 hG hB (by omega) m1 m2 (kI_i ?_)))
        rw [nI_1 k]
        cases e : fc A.W A.L k (mtN A.W A.L k).1 with
        | none =>
          rw [e] at ih
          simp only [Nat.or_zero] at ih
          exact ⟨fun _ => ih, fun z => absurd rfl z⟩
        | some c =>
          rw [e] at ih
          have hc := m3 c e
          refine ⟨fun z => ?_, fun _ => ?_⟩
          · have := (wo_none (o := some c) (fun c' e' => by cases e'; omega)).mp z
            cases this
          · have e1 : (1 : Int32) <<< (wo (some c) &&& 31) = nI (2 ^ c) := sh_1 (by omega)
            rw [e1, nb_or]
            exact ih
    · cases e : ix A.W.nm p with
      | none => rw [e] at q; exact q I pj_fr_rf
      | some m =>
        rw [e] at q
        have hm := ix_p e
        have ep : p = nI m := by
          unfold ix at e
          split at e
          · rename_i y
            cases e
            obtain ⟨j, hj, rfl⟩ := nI_of (x := p) (fun c => absurd (Int32.lt_of_le_of_lt y.1 c) (by decide))
            rw [nI_clamp hj]
          · cases e
        have ht : A.L.the m = false := by
          cases e2 : A.L.the m with
          | false => rfl
          | true => exact absurd ep (z m hm e2)
        have q := q I pj_fr_rf
        have en : (mtN A.W A.L (m + 1)).2 = none := fc_n hm ht
        simp only at q
        rw [en] at q
        exact q
end PMb
