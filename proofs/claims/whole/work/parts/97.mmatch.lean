/-! match: the reference -/
section PMd
variable {n h : Nat} {Q : pj_K} {I : Nat → Nat → Int32} {J : Nat → Nat → Int64} {A : Ab}
def fS : Nat → Nat → Bool := fun c _ => c == 310 || c == 311
theorem fS_q {c j : Nat} (h : qM c j = false) : fS c j = false := by
  unfold qM at h
  simp only [Bool.or_eq_false_iff] at h
  unfold fS
  rw [h.1.1.1.1.2, h.1.1.1.2]
  rfl
theorem aS_fS {I' : Nat → Nat → Int32} (h : pj_fr aS I I') : pj_fr fS I I' := pj_fr_w h (fun c j hc => by
  unfold fS at hc
  rw [Bool.or_eq_false_iff] at hc
  exact hc.1)
theorem s236 (hh : 1 ≤ h) {k S : Nat} (q : Q (some (.int (nI (256 * k + S)))) (zc n, I, J)) : pj_D h 236 [.int (nI k), .int (nI S)] (zc n, I, J) Q := by
  refine pj_ent (g := 0) hh (t := mt_236) rfl rfl (v236_0 (pj_D_le 0) I J _ _ ?_)
  have e : (256 : Int32) * nI k + nI S = nI (256 * k + S) := by
    show nI 256 * nI k + nI S = _
    rw [pk_mul, nI_add]
  rw [e]
  exact q
/-- PegCoatsModel.fits -/
theorem s237 (hh : 6 ≤ h) {i c S : Nat} (hA : AV A) (hI : InvM A I J) (hi : i < A.W.nm) (hc : c < A.W.nc) (hS : S < 256) (q : ∀ I' J', pj_fr aS I I' → pj_fr sS J J' → Q (some (.int (nI (if S.testBit c = true then 0 else gn A.W A.L i c)))) (zc n, I', J')) : pj_D h 237 [.ref 276, .int (nI i), .int (nI c), .int (nI S)] (zc n, I, J) Q := by
  have h7 := hA.2.2.1
  have h8 := hA.2.1
  obtain ⟨B, b1, b2⟩ := hI.2.1
  obtain ⟨G, g1, g2, g3⟩ := hI.2.2.1.2.2.1
  obtain ⟨T, t1, t2, t3⟩ := hI.2.2.1.2.1
  refine pj_ent (g := 5) hh (t := mt_237) rfl rfl (v237_0 (pj_D_le 5) I J _ _ _ ?_)
  unfold gn at q
  refine s206 (by decide) (v := 0) (by decide) g1 (by omega) (by omega) (kI_i ?_)
  rw [g3 i hi, Bool.not_not]
  cases e1 : A.L.the i with
  | false =>
    rw [e1] at q
    simp only [Bool.false_and, ite_self] at q
    exact ⟨fun _ => q I J pj_fr_rf pj_fr_rf, fun z => absurd rfl z⟩
  | true =>
    rw [e1, Bool.true_and] at q
    refine ⟨fun z => absurd z (by decide), fun _ => s207 (by decide) (by omega) (by omega) (kI_i ?_)⟩
    cases e2 : S.testBit c with
    | true =>
      rw [e2, if_pos rfl] at q
      exact ⟨fun _ => q I J pj_fr_rf pj_fr_rf, fun z => absurd z (by decide)⟩
    | false =>
      rw [e2, if_neg (by decide)] at q
      refine ⟨fun z => absurd rfl z, fun _ => ?_⟩
      rw [t1]
      refine s207 (by decide) (by omega) (by omega) (kI_i ?_)
      rw [t3 c hc]
      cases e3 : A.L.bur c with
      | true =>
        rw [e3] at q
        exact ⟨fun z => absurd z (by decide), fun _ => q I J pj_fr_rf pj_fr_rf⟩
      | false =>
        rw [e3] at q
        refine ⟨fun _ => s216 (Nat.le_refl 5) (v := 0) (o := some c) (by decide) b1 b2 hA.1 hI.2.2.1 hA.2.2.2.1 hi (fun d e => by cases e; exact hc) (fun I2 J2 f1 f2 => kL_i ?_), fun z => absurd rfl z⟩
        have q : Q (some (.int (nI (wml A.W A.L i c).toNat))) (zc n, I2, J2) := q I2 J2 f1 f2
        have gb := wml_b hA hi hc
        show (lg_cmp (iL (wml A.W A.L i c)) 0 ≤ 0 → _) ∧ (¬ lg_cmp (iL (wml A.W A.L i c)) 0 ≤ 0 → Q (some (.int (Int64.toInt32 (iL (wml A.W A.L i c))))) _)
        have p0 : iL (wml A.W A.L i c) ≤ 0 ↔ wml A.W A.L i c ≤ 0 := iL_le (b := 0) gb.l ⟨by decide, by decide⟩
        rw [lg_cmp_le, p0, iL_i]
        refine ⟨fun z => ?_, fun z => ?_⟩
        · rw [show (wml A.W A.L i c).toNat = 0 by omega] at q
          exact q
        · rw [← iI_n, show (((wml A.W A.L i c).toNat : Nat) : Int) = wml A.W A.L i c by omega] at q
          exact q
/-- the greatest sums of the men from one on, in the reference -/
def MB (A : Ab) (k : Nat) (I : Nat → Nat → Int32) : Prop := ∀ S, S < 256 → I 311 (256 * k + S) = nI (mb A.W A.L (A.W.nm - k) k S)
/-- PegCoatsModel.match -/
theorem m235 (hh : 7 ≤ h) {p : Int32} (hA : AV A) (hI : InvM A I J) (q : ∀ I' J', pj_fr qM I I' → pj_fr sS J J' → Q (some (.int (matchV A p))) (zc n, I', J')) : pj_D h 235 [.ref 276, .int p] (zc n, I, J) Q := by
  have h7 := hA.2.2.1
  have h8 := hA.2.1
  have inv : ∀ {I' : Nat → Nat → Int32} {J' : Nat → Nat → Int64}, pj_fr fS I I' → pj_fr sS J J' → InvM A I' J' := fun hf hj => InvM_q hA (pj_fr_w hf (fun c j hc => fS_q hc)) hj hI
  obtain ⟨B, b1, b2⟩ := hI.2.1
  have hB2 := b2.1.2.2.1
  have iB := vp_in_nI hB2 (show 2 < 2 ^ 31 by decide)
  have eB : (nI B).toNatClampNeg = B := nI_clamp (by omega)
  have bb : ∀ {I' : Nat → Nat → Int32}, pj_fr fS I I' → I' 276 13 = nI B ∧ I' 278 B = nI A.W.nc ∧ I' 281 B = nI A.W.nm := fun hf => ⟨(hf _ _ rfl).trans b1, (hf _ _ rfl).trans b2.1.2.2.2.1, (hf _ _ rfl).trans b2.1.2.2.2.2.1⟩
  unfold matchV at q
  -- one man's choice, and the next's
  have choose : ∀ m, m < A.W.nm → p = nI m → ¬ p = -1 → ∀ I1 J1, pj_fr fS I I1 → pj_fr sS J J1 → (∀ k, k ≤ A.W.nm → MB A k I1) → ∀ s k I' J', s + k = m + 1 → pj_fr aS I1 I' → pj_fr sS J J' → pj_R (pj_D 6) ta mc_235 false Q 216 [some (.ref 276), some (.int p), some (.int (nI (mtN A.W A.L k).1)), some (.int (wo (mtN A.W A.L k).2)), some (.int (nI k)), none, none, none] [] (zc n) I' J' 0 0 := by
    intro m hm ep hp I1 J1 f1 j1 hM s
    rw [if_neg hp, ep, ix_s hm (by omega)] at q
    simp only at q
    induction s with
    | zero =>
      intro k I' J' hk hf hj
      obtain rfl : k = m + 1 := by omega
      rw [ep]
      exact v235_216 (pj_D_le 6) I' J' _ _ _ _ (br_t (nI_lt (by omega) (by omega)) (q I' J' (pj_fr_w (pj_fr_tr f1 (aS_fS hf)) (fun c j hc => fS_q hc)) hj))
    | succ s ih =>
      intro k I' J' hk hf hj
      have ihk := fun I2 J2 => ih (k + 1) I2 J2 (by omega)
      obtain ⟨n1, n2, -⟩ := mtN_b (W := A.W) (L := A.L) k
      have n3 := (mtN_b (W := A.W) (L := A.L) (k + 1)).2.2
      have e1 : mtN A.W A.L (k + 1) = ((mtN A.W A.L k).1 ||| (match fc A.W A.L k (mtN A.W A.L k).1 with | none => 0 | some c => 2 ^ c), fc A.W A.L k (mtN A.W A.L k).1) := rfl
      rw [e1] at ihk n3
      generalize (mtN A.W A.L k).1 = S at ihk n1 n2 n3
      have S256 : S < 256 := Nat.lt_of_lt_of_le n1 (Nat.pow_le_pow_right (n := 2) (by decide) h8)
      have hMf : ∀ {I2 : Nat → Nat → Int32}, pj_fr aS I1 I2 → ∀ k, k ≤ A.W.nm → MB A k I2 := fun hf k hk S hS => (hf _ _ rfl).trans (hM k hk S hS)
      have m1 := mb_b hA (r := A.W.nm - (k + 1)) (i := k + 1) (S := S) (by omega)
      have m0 := mb_b hA (r := A.W.nm - k) (i := k) (S := S) (by omega)
      rw [ep]
      refine v235_216 (pj_D_le 6) I' J' _ _ _ _ (br_f (nI_nlt (by omega) (by omega)) (s236 (by decide) (kI_i ⟨pk_in (256 * k + S) 2048 (by omega), ?_⟩)))
      rw [nI_clamp (n := 256 * k + S) (by omega), hMf hf k (by omega) S S256]
      -- the end of a man's choice
      have fin : ∀ (o : Option Nat) I2 J2, o = fc A.W A.L k S → pj_fr aS I1 I2 → pj_fr sS J J2 → ((¬ wo o = (-1) → pj_R (pj_D 6) ta mc_235 false Q 216 [some (.ref 276), some (.int (nI m)), some (.int (nI S ||| ((1 : Int32) <<< (wo o &&& 31)))), some (.int (wo o)), some (.int (nI (k + 1))), none, none, none] [] (zc n) I2 J2 0 0) ∧ (wo o = (-1) → pj_R (pj_D 6) ta mc_235 false Q 216 [some (.ref 276), some (.int (nI m)), some (.int (nI S ||| 0)), some (.int (wo o)), some (.int (nI (k + 1))), none, none, none] [] (zc n) I2 J2 0 0)) := by
        intro o I2 J2 ho f2 j2
        have nx := ihk I2 J2 f2 j2
        rw [← ho, ep] at nx
        cases o with
        | none =>
          have z2 : nI S ||| 0 = nI (S ||| 0) := nb_or S 0
          rw [z2]
          exact ⟨fun z => absurd rfl z, fun _ => nx⟩
        | some c =>
          have hc := n3 c ho.symm
          have e1 : (1 : Int32) <<< (wo (some c) &&& 31) = nI (2 ^ c) := sh_1 (by omega)
          rw [e1, nb_or]
          refine ⟨fun _ => nx, fun z => ?_⟩
          have := (wo_none (o := some c) (fun c' e' => by cases e'; omega)).mp z
          cases this
      -- behind a coat found, or none
      have out : ∀ (o : Option Nat) c I2 J2, c ≤ A.W.nc → o = fc A.W A.L k S → o ≠ none ∨ c = A.W.nc → pj_fr aS I1 I2 → pj_fr sS J J2 → pj_R (pj_D 6) ta mc_235 false Q 240 [some (.ref 276), some (.int (nI m)), some (.int (nI S)), some (.int (wo o)), some (.int (nI k)), some (.int (nI (mb A.W A.L (A.W.nm - k) k S))), some (.int (nI c)), none] [] (zc n) I2 J2 0 0 := by
        intro o c I2 J2 hc ho hz f2 j2
        have hb := bb (pj_fr_tr f1 (aS_fS f2))
        refine v235_240 (pj_D_le 6) I2 J2 _ _ _ _ _ _ ?_
        rw [hb.1, eB, hb.2.1, nI_1 k]
        have F := fin o I2 J2 ho f2 j2
        refine ⟨iB, pk_le A.W.nc c (fun _ => F) (fun d => ⟨fun _ => F, fun z => ?_⟩)⟩
        exfalso
        rcases hz with y | y
        · cases o with
          | none => exact y rfl
          | some x =>
            have hx := n3 x ho.symm
            have := (wo_none (o := some x) (fun c' e' => by cases e'; omega)).mp z
            cases this
        · omega
      -- looking for it
      suffices look : ∀ s' c I2 J2, s' + c = A.W.nc → pj_fr aS I1 I2 → pj_fr sS J J2 → (mb A.W A.L (A.W.nm - (k + 1)) (k + 1) S ≠ mb A.W A.L (A.W.nm - k) k S → fc A.W A.L k S = ff (fun c => decide (0 < gn A.W A.L k c) && !S.testBit c && decide (gn A.W A.L k c + mb A.W A.L (A.W.nm - (k + 1)) (k + 1) (S ||| 2 ^ c) = mb A.W A.L (A.W.nm - k) k S)) s' c) → pj_R (pj_D 6) ta mc_235 false Q 240 [some (.ref 276), some (.int (nI m)), some (.int (nI S)), some (.int (-1)), some (.int (nI k)), some (.int (nI (mb A.W A.L (A.W.nm - k) k S))), some (.int (nI c)), none] [] (zc n) I2 J2 0 0 from look A.W.nc 0 I' J' (by omega) hf hj (fun z => by unfold fc; rw [if_neg z])
      intro s'
      induction s' with
      | zero =>
        intro c I2 J2 hc f2 j2 hl
        have hn : fc A.W A.L k S = none := by
          by_cases z : mb A.W A.L (A.W.nm - (k + 1)) (k + 1) S = mb A.W A.L (A.W.nm - k) k S
          · unfold fc; rw [if_pos z]
          · rw [hl z]; rfl
        exact out none c I2 J2 (by omega) hn.symm (Or.inr (by omega)) f2 j2
      | succ s' ihc =>
        intro c I2 J2 hc f2 j2 hl
        have hcn : c < A.W.nc := by omega
        have hb := bb (pj_fr_tr f1 (aS_fS f2))
        refine v235_240 (pj_D_le 6) I2 J2 _ _ _ _ _ _ ?_
        rw [hb.1, eB, hb.2.1, nI_1 k, nI_1 c]
        refine ⟨iB, br_f (nI_ge hcn (by omega)) ⟨fun z => absurd rfl z, fun _ => s236 (by decide) (kI_i ⟨pk_in (256 * (k + 1) + S) 2048 (by omega), ?_⟩)⟩⟩
        rw [nI_clamp (n := 256 * (k + 1) + S) (by omega), hMf f2 (k + 1) (by omega) S S256, nI_eq (by omega) (by omega)]
        refine ⟨fun z => fin none I2 J2 (by unfold fc; rw [if_pos z]) f2 j2, fun z => ?_⟩
        have hl := hl z
        unfold ff at hl
        have hI2 := inv (pj_fr_tr f1 (aS_fS f2)) j2
        refine s237 (Nat.le_refl 6) hA hI2 (by omega) hcn S256 (fun I3 J3 f3 j3 => kI_i ?_)
        have f3' := pj_fr_tr f2 f3
        have j3' := pj_fr_tr j2 j3
        have gb := gn_b hA (i := k) (by omega) hcn
        cases e2 : S.testBit c with
        | true =>
          rw [e2] at hl
          rw [if_pos rfl]
          refine ⟨fun _ => ihc (c + 1) I3 J3 (by omega) f3' j3' (fun _ => by rw [hl]; simp), fun y => absurd (by decide) y⟩
        | false =>
          rw [e2] at hl
          rw [if_neg (by decide)]
          refine pk_le (gn A.W A.L k c) 0 (fun d => ?_) (fun d => ?_)
          · rw [decide_eq_false (by omega)] at hl
            exact ihc (c + 1) I3 J3 (by omega) f3' j3' (fun _ => by rw [hl]; simp)
          · rw [decide_eq_true d] at hl
            have T256 : S ||| 2 ^ c < 256 := or_pow_lt (N := 8) S256 (by omega)
            have mT := mb_b hA (r := A.W.nm - (k + 1)) (i := k + 1) (S := S ||| 2 ^ c) (by omega)
            rw [sh_1 (by omega), nb_or]
            refine s236 (by decide) (kI_i ⟨pk_in (256 * (k + 1) + (S ||| 2 ^ c)) 2048 (by omega), ?_⟩)
            rw [nI_clamp (n := 256 * (k + 1) + (S ||| 2 ^ c)) (by omega), hMf f3' (k + 1) (by omega) _ T256, nI_add, nI_eq (by omega) (by omega)]
            refine ⟨fun y => ?_, fun y => ?_⟩
            · rw [decide_eq_false y] at hl
              exact ihc (c + 1) I3 J3 (by omega) f3' j3' (fun _ => by rw [hl]; simp)
            · rw [decide_eq_true y] at hl
              have hl : fc A.W A.L k S = some c := hl
              exact out (some c) (c + 1) I3 J3 (by omega) hl.symm (Or.inl (by intro x; cases x)) f3' j3'
  -- what is asked, the sums being there
  have ask : (p = -1 ∨ ∃ m, m < A.W.nm ∧ p = nI m) → ∀ I' J', pj_fr fS I I' → pj_fr sS J J' → (∀ k, k ≤ A.W.nm → MB A k I') → ((¬ p = (-1) → pj_R (pj_D 6) ta mc_235 false Q 216 [some (.ref 276), some (.int p), some (.int 0), some (.int (-1)), some (.int 0), none, none, none] [] (zc n) I' J' 0 0) ∧ (p = (-1) → Q (some (.int (I' 311 0))) (zc n, I', J'))) := by
    intro hp I' J' hf hj hM
    refine ⟨fun z => ?_, fun z => ?_⟩
    · obtain ⟨m, hm, ep⟩ := hp.resolve_left z
      exact choose m hm ep z I' J' hf hj hM (m + 1) 0 I' J' (by omega) pj_fr_rf hj
    · rw [if_pos z] at q
      have := hM 0 (Nat.zero_le _) 0 (by decide)
      have e : I' 311 0 = nI (mb A.W A.L A.W.nm 0 0) := this
      rw [e]
      exact q I' J' (pj_fr_w hf (fun c j hc => fS_q hc)) hj
  -- the sums
  have sums : (p = -1 ∨ ∃ m, m < A.W.nm ∧ p = nI m) → ∀ r i I' J', r = i → i ≤ A.W.nm → pj_fr fS I I' → pj_fr sS J J' → (∀ k, i ≤ k → k ≤ A.W.nm → MB A k I') → pj_R (pj_D 6) ta mc_235 false Q 61 [some (.ref 276), some (.int p), some (.int (nI i - 1)), none, none, none, none, none] [] (zc n) I' J' 0 0 := by
    intro hp r
    induction r with
    | zero =>
      intro i I' J' hr hi hf hj hM
      subst hr
      exact v235_61 (pj_D_le 6) I' J' _ _ (br_t (by decide) (ask hp I' J' hf hj (fun k hk => hM k (Nat.zero_le _) hk)))
    | succ r ih =>
      intro i I' J' hr hi hf hj hM
      obtain rfl : i = r + 1 := hr.symm
      rw [nI_pred]
      refine v235_61 (pj_D_le 6) I' J' _ _ (br_f (nI_pos (by omega)) ?_)
      suffices sets : ∀ s S I' J', s + S = 256 → pj_fr fS I I' → pj_fr sS J J' → (∀ k, r + 1 ≤ k → k ≤ A.W.nm → MB A k I') → (∀ T, T < S → I' 311 (256 * r + T) = nI (mb A.W A.L (A.W.nm - r) r T)) → pj_R (pj_D 6) ta mc_235 false Q 67 [some (.ref 276), some (.int p), some (.int (nI r)), some (.int (nI S)), none, none, none, none] [] (zc n) I' J' 0 0 from sets 256 0 I' J' (by decide) hf hj hM (fun T hT => by omega)
      intro s
      induction s with
      | zero =>
        intro S I' J' hS hf hj hM hb
        obtain rfl : S = 256 := by omega
        refine v235_67 (pj_D_le 6) I' J' _ _ _ (br_t (by decide) ?_)
        have e1 : nI r + (-1) = nI r - 1 := by rw [Int32.sub_eq_add_neg]
        rw [e1]
        refine ih r I' J' rfl (by omega) hf hj (fun k h1 h2 => ?_)
        rcases Nat.lt_or_ge r k with z | z
        · exact hM k z h2
        · obtain rfl : k = r := by omega
          exact fun T hT => hb T hT
      | succ s ihs =>
        intro S I' J' hS hf hj hM hb
        have S256 : S < 256 := by omega
        obtain ⟨t, ht⟩ : ∃ t, A.W.nm - r = t + 1 := ⟨A.W.nm - r - 1, by omega⟩
        have et : A.W.nm - (r + 1) = t := by omega
        refine v235_67 (pj_D_le 6) I' J' _ _ _ (br_f (nI_ge (b := 256) S256 (by decide)) ?_)
        rw [nI_1 r]
        refine s236 (by decide) (kI_i ⟨pk_in (256 * (r + 1) + S) 2048 (by omega), ?_⟩)
        rw [nI_clamp (n := 256 * (r + 1) + S) (by omega), hM (r + 1) (Nat.le_refl _) hi S S256, et]
        suffices coats : ∀ s' c I2 J2, s' + c = A.W.nc → pj_fr aS I' I2 → pj_fr sS J J2 → pj_R (pj_D 6) ta mc_235 false Q 91 [some (.ref 276), some (.int p), some (.int (nI r)), some (.int (nI S)), some (.int (nI (mbF (gn A.W A.L r) (mb A.W A.L t (r + 1)) S c))), some (.int (nI c)), none, none] [] (zc n) I2 J2 0 0 from coats A.W.nc 0 I' J' (by omega) pj_fr_rf hj
        intro s'
        induction s' with
        | zero =>
          intro c I2 J2 hc f2 j2
          obtain rfl : c = A.W.nc := by omega
          have hb2 := bb (pj_fr_tr hf (aS_fS f2))
          refine v235_91 (pj_D_le 6) I2 J2 _ _ _ _ _ ?_
          rw [hb2.1, eB, hb2.2.1, nI_1 S]
          refine ⟨iB, br_t (nI_le (Nat.le_refl _) (by omega)) (s236 (by decide) (kI_i ⟨pk_in (256 * r + S) 2048 (by omega), ?_⟩))⟩
          rw [nI_clamp (n := 256 * r + S) (by omega)]
          refine ihs (S + 1) _ J2 (by omega) (pj_fr_u (pj_fr_tr hf (aS_fS f2)) rfl) j2 (fun k h1 h2 T hT => (pj_u_j (by omega)).trans ((f2 _ _ rfl).trans (hM k h1 h2 T hT))) (fun T hT => ?_)
          by_cases z : T = S
          · rw [z, pj_u_e, ht]; rfl
          · rw [pj_u_j (by omega), f2 311 _ rfl]; exact hb T (by omega)
        | succ s' ihc =>
          intro c I2 J2 hc f2 j2
          have hcn : c < A.W.nc := by omega
          have nx := fun I3 J3 => ihc (c + 1) I3 J3 (by omega)
          have em : mbF (gn A.W A.L r) (mb A.W A.L t (r + 1)) S (c + 1) = if 0 < gn A.W A.L r c ∧ S.testBit c = false then (if mbF (gn A.W A.L r) (mb A.W A.L t (r + 1)) S c < gn A.W A.L r c + mb A.W A.L t (r + 1) (S ||| 2 ^ c) then gn A.W A.L r c + mb A.W A.L t (r + 1) (S ||| 2 ^ c) else mbF (gn A.W A.L r) (mb A.W A.L t (r + 1)) S c) else mbF (gn A.W A.L r) (mb A.W A.L t (r + 1)) S c := rfl
          rw [em] at nx
          have gb := gn_b hA (i := r) (by omega) hcn
          have mb1 := mb_b hA (r := t) (i := r + 1) (S := S ||| 2 ^ c) (by omega)
          have ml : mbF (gn A.W A.L r) (mb A.W A.L t (r + 1)) S c < 2 ^ 31 := by
            rw [mbF_cong (g' := fun c => if c < A.W.nc then gn A.W A.L r c else 0) (fun d hd => by rw [if_pos (by omega)])]
            have := mbF_b (g := fun c => if c < A.W.nc then gn A.W A.L r c else 0) (f := mb A.W A.L t (r + 1)) (S := S) (b := 1000000 * t) (fun c => by
              split
              · rename_i z; exact gn_b hA (by omega) z
              · omega) (fun T => mb_b hA (by omega)) c
            omega
          have hb2 := bb (pj_fr_tr hf (aS_fS f2))
          refine v235_91 (pj_D_le 6) I2 J2 _ _ _ _ _ ?_
          rw [hb2.1, eB, hb2.2.1, nI_1 r, nI_1 c]
          refine ⟨iB, br_f (nI_ge hcn (by omega)) (s237 (Nat.le_refl 6) hA (inv (pj_fr_tr hf (aS_fS f2)) j2) (by omega) hcn S256 (fun I3 J3 f3 j3 => kI_i ?_))⟩
          have f3' := pj_fr_tr f2 f3
          have j3' := pj_fr_tr j2 j3
          cases e2 : S.testBit c with
          | true =>
            rw [e2, if_neg (fun z => by cases z.2)] at nx
            rw [if_pos rfl]
            exact ⟨fun _ => nx I3 J3 f3' j3', fun y => absurd (by decide) y⟩
          | false =>
            rw [e2] at nx
            rw [if_neg (by decide)]
            refine pk_le (gn A.W A.L r c) 0 (fun d => ?_) (fun d => ?_)
            · rw [if_neg (fun z => by omega)] at nx
              exact nx I3 J3 f3' j3'
            · rw [if_pos ⟨d, rfl⟩] at nx
              have T256 : S ||| 2 ^ c < 256 := or_pow_lt (N := 8) S256 (by omega)
              have eM : ∀ {I4 : Nat → Nat → Int32}, pj_fr aS I' I4 → I4 311 (256 * (r + 1) + (S ||| 2 ^ c)) = nI (mb A.W A.L t (r + 1) (S ||| 2 ^ c)) := fun f4 => (f4 _ _ rfl).trans (by rw [hM (r + 1) (Nat.le_refl _) hi _ T256, et])
              rw [sh_1 (by omega), nb_or]
              refine s236 (by decide) (kI_i ⟨pk_in (256 * (r + 1) + (S ||| 2 ^ c)) 2048 (by omega), ?_⟩)
              rw [nI_clamp (n := 256 * (r + 1) + (S ||| 2 ^ c)) (by omega), eM f3', nI_add]
              refine pk_le (gn A.W A.L r c + mb A.W A.L t (r + 1) (S ||| 2 ^ c)) _ (fun y => ?_) (fun y => s236 (by decide) (kI_i ⟨pk_in (256 * (r + 1) + (S ||| 2 ^ c)) 2048 (by omega), ?_⟩))
              · rw [if_neg (by omega)] at nx
                exact nx I3 J3 f3' j3'
              · rw [nI_clamp (n := 256 * (r + 1) + (S ||| 2 ^ c)) (by omega), eM f3', nI_add]
                rw [if_pos y] at nx
                exact nx I3 J3 f3' j3'
  have zeros : (p = -1 ∨ ∃ m, m < A.W.nm ∧ p = nI m) → ∀ s S I', s + S = 256 → pj_fr fS I I' → (∀ T, T < S → I' 311 (256 * A.W.nm + T) = 0) → pj_R (pj_D 6) ta mc_235 false Q 17 [some (.ref 276), some (.int p), some (.int (nI S)), none, none, none, none, none] [] (zc n) I' J 0 0 := by
    intro hp s
    induction s with
    | zero =>
      intro S I' hS hf hz
      obtain rfl : S = 256 := by omega
      have hb := bb hf
      refine v235_17 (pj_D_le 6) I' J _ _ ?_
      rw [hb.1, eB, hb.2.2]
      refine br_t (by decide) ⟨iB, sums hp A.W.nm A.W.nm I' J rfl (Nat.le_refl _) hf pj_fr_rf (fun k h1 h2 T hT => ?_)⟩
      obtain rfl : k = A.W.nm := by omega
      rw [hz T hT, Nat.sub_self]
      rfl
    | succ s ih =>
      intro S I' hS hf hz
      have hb := bb hf
      refine v235_17 (pj_D_le 6) I' J _ _ ?_
      rw [hb.1, eB, hb.2.2, nI_1 S]
      refine br_f (nI_ge (b := 256) (by omega) (by decide)) ⟨iB, s236 (by decide) (kI_i ⟨pk_in (256 * A.W.nm + S) 2048 (by omega), ?_⟩)⟩
      rw [nI_clamp (n := 256 * A.W.nm + S) (by omega)]
      refine ih (S + 1) _ (by omega) (pj_fr_u hf rfl) (fun T hT => ?_)
      by_cases z : T = S
      · rw [z, pj_u_e]
      · rw [pj_u_j (by omega)]; exact hz T (by omega)
  refine pj_ent (g := 6) hh (t := mt_235) rfl rfl (v235_0 (pj_D_le 6) I J _ ?_)
  refine ⟨fun c => zeros (Or.inl c) 256 0 I (by decide) pj_fr_rf (fun T hT => by omega), fun c => ?_⟩
  refine s212 (by decide) b1 hB2 b2.1.2.2.2.2.1 h7 (fun m hm e => kI_i ⟨fun _ => zeros (Or.inr ⟨m, hm, e⟩) 256 0 I (by decide) pj_fr_rf (fun T hT => by omega), fun z => absurd z (by decide)⟩) (fun z => kI_i ⟨fun z => absurd rfl z, fun _ => ?_⟩)
  rw [if_neg c, ix_n (by omega) z] at q
  exact q I J pj_fr_rf pj_fr_rf
end PMd
