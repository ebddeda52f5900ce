/-! had, tells: the reference -/
/-- how many of the first rows are met in a year -/
def meY (A : Ab) (m ch k : Nat) (i : Nat) : Bool := decide ((A.rw.2 i).1 = k) && decide ((scn A.W A.L m ch (A.rw.2 i).1).wor (A.rw.2 i).2.1 = (A.rw.2 i).2.2)
/-- .. in the years below k -/
def meK (A : Ab) (m ch k : Nat) (i : Nat) : Bool := decide ((A.rw.2 i).1 < k) && decide ((scn A.W A.L m ch (A.rw.2 i).1).wor (A.rw.2 i).2.1 = (A.rw.2 i).2.2)
theorem me_add {A : Ab} {m ch k : Nat} : ∀ r, cu (meK A m ch (k + 1)) r = cu (meK A m ch k) r + cu (meY A m ch k) r
  | 0 => rfl
  | r + 1 => by
    have ih := me_add (A := A) (m := m) (ch := ch) (k := k) r
    have e1 : cu (meK A m ch (k + 1)) (r + 1) = cu (meK A m ch (k + 1)) r + (match meK A m ch (k + 1) r with | true => 1 | false => 0) := rfl
    have e2 : cu (meK A m ch k) (r + 1) = cu (meK A m ch k) r + (match meK A m ch k r with | true => 1 | false => 0) := rfl
    have e3 : cu (meY A m ch k) (r + 1) = cu (meY A m ch k) r + (match meY A m ch k r with | true => 1 | false => 0) := rfl
    rw [e1, e2, e3, ih]
    unfold meK meY
    cases decide ((scn A.W A.L m ch (A.rw.2 r).1).wor (A.rw.2 r).2.1 = (A.rw.2 r).2.2) with
    | false => simp only [Bool.and_false]; omega
    | true =>
      simp only [Bool.and_true]
      rcases Nat.lt_trichotomy (A.rw.2 r).1 k with z | z | z
      · rw [decide_eq_true (show (A.rw.2 r).1 < k + 1 by omega), decide_eq_true z, decide_eq_false (show ¬ (A.rw.2 r).1 = k by omega)]; simp only; omega
      · rw [decide_eq_true (show (A.rw.2 r).1 < k + 1 by omega), decide_eq_false (show ¬ (A.rw.2 r).1 < k by omega), decide_eq_true z]; simp only; omega
      · rw [decide_eq_false (show ¬ (A.rw.2 r).1 < k + 1 by omega), decide_eq_false (show ¬ (A.rw.2 r).1 < k by omega), decide_eq_false (show ¬ (A.rw.2 r).1 = k by omega)]; simp only; omega
theorem cu_all {p : Nat → Bool} : ∀ {r : Nat}, (cu p r = r) ↔ allN p r = true
  | 0 => ⟨fun _ => rfl, fun _ => rfl⟩
  | r + 1 => by
    have ih := cu_all (p := p) (r := r)
    have b := cu_le p r
    have e : cu p (r + 1) = cu p r + (match p r with | true => 1 | false => 0) := rfl
    have e2 : allN p (r + 1) = (allN p r && p r) := rfl
    rw [e, e2]
    cases p r with
    | true =>
      simp only [Bool.and_true]
      rw [← ih]
      omega
    | false =>
      simp only [Bool.and_false]
      refine ⟨fun z => ?_, fun z => by cases z⟩
      omega
theorem me_0 {A : Ab} {m ch : Nat} : ∀ r, cu (meK A m ch 0) r = 0
  | 0 => rfl
  | r + 1 => by
    show cu (meK A m ch 0) r + (match meK A m ch 0 r with | true => 1 | false => 0) = 0
    rw [me_0 r]
    unfold meK
    rw [decide_eq_false (Nat.not_lt_zero _), Bool.false_and]
    rfl
section PMt
variable {n h : Nat} {Q : pj_K} {I : Nat → Nat → Int32} {J : Nat → Nat → Int64} {A : Ab}
/-- who wore what, by choice and year, as the reference writes it -/
def OB (A : Ab) (m y ch : Nat) (I : Nat → Nat → Int32) : Prop := ∀ k, k < y → ∀ j, j < A.W.nm → I 317 (7 * (31 * ch + k) + j) = wo ((scn A.W A.L m ch k).wor j)
theorem qM_t {c j : Nat} (h : mS 1 c j = true ∨ c = 310 ∨ c = 311 ∨ c = 312 ∨ c = 313 ∨ c = 317) : qM c j = true := by
  unfold qM
  simp only [Bool.or_eq_true, beq_iff_eq]
  rcases h with h | h | h | h | h | h
  · exact Or.inl (Or.inl (Or.inl (Or.inl (Or.inl h))))
  · exact Or.inl (Or.inl (Or.inl (Or.inl (Or.inr h))))
  · exact Or.inl (Or.inl (Or.inl (Or.inr h)))
  · exact Or.inl (Or.inl (Or.inr h))
  · exact Or.inl (Or.inr h)
  · exact Or.inr h
theorem wo_inj {o o' : Option Nat} (h : ∀ c, o = some c → c < 2 ^ 31) (h' : ∀ c, o' = some c → c < 2 ^ 31) : wo o = wo o' ↔ o = o' := by
  cases o' with
  | none => exact wo_none h
  | some c => exact wo_eq h (h' c rfl)
theorem tick2 (hh : 6 ≤ h) {w : Option Nat} {L : Ly} {m0 : Nat} {f : Nat → Nat × Nat × Nat} {I' : Nat → Nat → Int32} {J' : Nat → Nat → Int64} (hw : ∀ k, w = some k → k < 2 ^ 31) (hA : AV A) (hI : InvM A I J) (hf : pj_fr qM I I') (hj : pj_fr sS J J') (hL : LM A.W 1 L I') (hLV : LV A.W L) (hK : KM 1 m0 f I') (q : ∀ I2 J2 f2, pj_fr qM I I2 → pj_fr sS J J2 → pj_fr (tS 1) I' I2 → LM A.W 1 (yea A.W w L) I2 → KM 1 (m0 + 1) f2 I2 → Q (some (.int (nI (y3 A.W w L).2))) (zc n, I2, J2)) : pj_D h 226 [.ref 276, .int 1, .int (wo w)] (zc n, I', J') Q := by
  have hI' := InvM_q hA hf hj hI
  obtain ⟨B, b1, b2⟩ := hI'.2.1
  exact s226 hh (v := 1) hw (by decide) b1 b2 hA.1 hL hLV hK (fun I2 J2 f2 j2 L2 K2 => q I2 J2 _ (pj_fr_tr hf (pj_fr_w f2 (fun c j hc => tS_q hc))) (pj_fr_tr hj j2) f2 L2 K2)
theorem try1 (hh : 1 ≤ h) {I0 : Nat → Nat → Int32} {J0 : Nat → Nat → Int64} (hA : AV A) (hI : InvM A I0 J0) (hf : pj_fr qM I0 I) (hj : pj_fr sS J0 J) (q : ∀ I', pj_fr qM I0 I' → pj_fr (mS 1) I I' → LM A.W 1 A.L I' → KM 1 A.kp.1 A.kp.2 I' → Q none (zc n, I', J)) : pj_D h 204 [.ref 276, .int 1, .int 0] (zc n, I, J) Q := by
  have hI' := InvM_q hA hf hj hI
  obtain ⟨-, -, l1, k1, -⟩ := hI'
  exact s204 hh (v := 1) (w := 0) (by decide) (by decide) (by decide) k1.1 (tld_le _).2 (fun I1 hc => q I1 (pj_fr_tr hf (mcp_q hc)) hc.2.2.2.2.2.2.2.2.2.2 (LM_cp hA.2.1 hA.2.2.1 hc l1) (KM_cp hc k1))
theorem li_c (ch k j : Nat) : (7 : Int32) * ((31 : Int32) * nI ch + nI k) + nI j = nI (7 * (31 * ch + k) + j) := by
  show nI 7 * (nI 31 * nI ch + nI k) + nI j = _
  rw [pk_mul, nI_add, pk_mul, nI_add]
/-- PegCoatsModel.hadBits -/
theorem s246 (hh : 7 ≤ h) {m : Nat} (hA : AV A) (hI : InvM A I J) (hm : m < A.W.nm) (ht : A.L.the m = true) (q : ∀ I' J', pj_fr qM I I' → pj_fr sS J J' → (∀ ch, ch < 9 → cho A.W A.L m ch = true → OB A m (yk A 30 + 1) ch I') → Q (some (.int (nI (bs (lef A m) 9)))) (zc n, I', J')) : pj_D h 246 [.ref 276, .int (nI m)] (zc n, I, J) Q := by
  have h8 := hA.2.1
  have h7 := hA.2.2.1
  have hV := hA.2.2.2.1
  have hy := hV.1
  have a16 := hA.2.2.2.2.2.2.2.2.2.2.1
  have arw := hA.2.2.2.2.2.2.2.2.2.2.2.1
  have yb : yk A 30 ≤ 30 ∧ A.L.yr + yk A 30 ≤ 999 := by unfold yk; split <;> omega
  have yb2 : ∀ k, (k ≤ 30 ∧ A.L.yr + k ≤ 999) ↔ k ≤ yk A 30 := by intro k; unfold yk; split <;> omega
  have e7m : (7 : Int32) + nI m = nI (7 + m) := nI_add 7 m
  have i7m := pk_in (x := nI (7 + m)) (7 + m) 154 (by omega)
  have z0 : ∀ x : Nat, nI x + 0 = nI x := fun x => nI_add x 0
  -- the bits of all choices
  have b9 : bs (lef A m) (A.W.nc + 1) = bs (lef A m) 9 := by
    apply Nat.eq_of_testBit_eq
    intro i
    rw [bs_bit, bs_bit]
    cases e : lef A m i with
    | false => rw [Bool.and_false, Bool.and_false]
    | true =>
      unfold lef at e
      rw [Bool.and_eq_true] at e
      have := cho_9 h8 e.1
      rw [decide_eq_true (by omega), decide_eq_true (by omega)]
  refine pj_ent (g := 6) hh (t := mt_246) rfl rfl (v246_0 (pj_D_le 6) I J _ ?_)
  have ecm : ∀ ch, ch ≤ 9 → nI ch - 1 = wo (chO ch) := fun ch _ => by
    unfold chO
    by_cases z : ch = 0
    · rw [if_pos z, z]; decide
    · rw [if_neg z, su_1 (by omega)]; rfl
  have ec1 : ∀ ch, ch ≤ 9 → nI ch - 1 + 1 = nI ch := fun ch _ => by
    rw [Int32.sub_eq_add_neg, Int32.add_assoc, Int32.add_left_neg, Int32.add_zero]
  suffices outer : ∀ r ch I' J', r + ch = A.W.nc + 1 → pj_fr qM I I' → pj_fr sS J J' → (∀ d, d < ch → cho A.W A.L m d = true → OB A m (yk A 30 + 1) d I') → pj_R (pj_D 6) ta mc_246 false Q 4 [some (.ref 276), some (.int (nI m)), some (.int (nI (bs (lef A m) ch))), some (.int (nI ch - 1)), none, none, none] [] (zc n) I' J' 0 0 from outer (A.W.nc + 1) 0 I J (by omega) pj_fr_rf pj_fr_rf (fun d hd => by omega)
  intro r
  induction r with
  | zero =>
    intro ch I' J' hc hf hj hO
    obtain rfl : ch = A.W.nc + 1 := by omega
    obtain ⟨B, b1, b2⟩ := (InvM_q hA hf hj hI).2.1
    refine v246_4 (pj_D_le 6) I' J' _ _ _ ?_
    rw [b1, nI_clamp (n := B) (by have := b2.1.2.2.1; omega), b2.1.2.2.2.1, nI_pred]
    refine ⟨vp_in_nI b2.1.2.2.1 (by decide), br_t (nI_le (Nat.le_refl _) (by omega)) ?_⟩
    rw [b9]
    exact q I' J' hf hj (fun ch hc hco => hO ch (by have := cho_9 h8 hco; omega) hco)
  | succ r ih =>
    intro ch I' J' hc hf hj hO
    have hcn : ch ≤ A.W.nc := by omega
    have hI' := InvM_q hA hf hj hI
    obtain ⟨B, b1, b2⟩ := hI'.2.1
    have iB := vp_in_nI b2.1.2.2.1 (show 2 < 2 ^ 31 by decide)
    have nx := fun I2 J2 => ih (ch + 1) I2 J2 (by omega)
    rw [bs_s] at nx
    have en1 : nI (ch + 1) - 1 = nI ch := nI_pred ch
    rw [en1] at nx
    refine v246_4 (pj_D_le 6) I' J' _ _ _ ?_
    rw [b1, nI_clamp (n := B) (by have := b2.1.2.2.1; omega), b2.1.2.2.2.1, ec1 ch (by omega), e7m, nI_clamp (n := 7 + m) (by omega), nI_clamp (n := m) (by omega), lm_w hI'.2.2.1 hm, ecm ch (by omega)]
    -- the walk of a choice that may be
    have walk : cho A.W A.L m ch = true → pj_D 6 204 [.ref 276, .int 1, .int 0] (zc n, I', J') (kV n fun I1 J1 => (vp_in (nI (7 + m)) 154 ∧ pj_R (pj_D 6) ta mc_246 false Q 66 [some (.ref 276), some (.int (nI m)), some (.int (nI (bs (lef A m) ch))), some (.int (wo (chO ch))), some (.int 0), some (.int 0), none] [] (zc n) (pj_u I1 304 (7 + m) (wo (chO ch))) J1 0 0)) := by
      intro hco
      refine try1 (by decide) hA hI hf hj (fun I1 f1 g1 l1 k1 => kV_i ⟨i7m, ?_⟩)
      have l2 : LM A.W 1 (scn A.W A.L m ch 0) (pj_u I1 304 (7 + m) (wo (chO ch))) := by
        have r1 := l1.2.2.2.2 m hm
        refine LM_m (m := m) (L := A.L) (L' := A.L.swr m (chO ch)) l1 rfl rfl rfl (fun k hk => ⟨rfl, rfl, upd1_n hk, rfl⟩) ?_ (fun c j hc => pj_u_n (by omega)) (fun c j h1 h2 hj => pj_u_j (by omega)) ⟨?_, ?_, ?_, ?_⟩
        · obtain ⟨G, g1, g2, g3⟩ := l1.2.2.1
          exact ⟨G, (pj_u_n (by decide)).trans g1, g2, g3⟩
        · rw [pj_u_n (by decide)]; exact r1.1
        · rw [pj_u_n (by decide)]; exact r1.2.1
        · show pj_u I1 304 (7 + m) (wo (chO ch)) 304 (7 * 1 + m) = wo (upd1 A.L.wor m (chO ch) m)
          rw [show 7 * 1 + m = 7 + m by omega, pj_u_e, upd1_e]
        · rw [pj_u_n (by decide)]; exact r1.2.2.2
      have k2 : KM 1 A.kp.1 A.kp.2 (pj_u I1 304 (7 + m) (wo (chO ch))) := ⟨(pj_u_n (by decide)).trans k1.1, fun i hi => ⟨(pj_u_n (by decide)).trans (k1.2 i hi).1, (pj_u_n (by decide)).trans (k1.2 i hi).2.1, (pj_u_n (by decide)).trans (k1.2 i hi).2.2⟩⟩
      have f2 : pj_fr qM I (pj_u I1 304 (7 + m) (wo (chO ch))) := pj_fr_u f1 (qM_t (Or.inl (rg_t (by omega) (by omega))))
      have o2 : ∀ d, d < ch → cho A.W A.L m d = true → OB A m (yk A 30 + 1) d (pj_u I1 304 (7 + m) (wo (chO ch))) := fun d hd hcd k hk j hj => ((pj_u_n (by decide)).trans (g1 _ _ rfl)).trans (hO d hd hcd k hk j hj)
      generalize pj_u I1 304 (7 + m) (wo (chO ch)) = I2 at l2 k2 f2 o2
      have ew1 : wo (chO ch) + 1 = nI ch := by rw [← ecm ch (by omega), ec1 ch (by omega)]
      -- the years of this choice
      have years : ∀ r' k I3 J3 m0 f, r' + k = yk A 30 + 1 → pj_fr qM I I3 → pj_fr sS J J3 → LM A.W 1 (scn A.W A.L m ch k) I3 → KM 1 m0 f I3 → (∀ d, d < ch → cho A.W A.L m d = true → OB A m (yk A 30 + 1) d I3) → OB A m k ch I3 → pj_R (pj_D 6) ta mc_246 false Q 66 [some (.ref 276), some (.int (nI m)), some (.int (nI (bs (lef A m) ch))), some (.int (wo (chO ch))), some (.int (nI (cu (meK A m ch k) A.rw.1))), some (.int (nI k)), none] [] (zc n) I3 J3 0 0 := by
        intro r'
        induction r' with
        | zero =>
          intro k I3 J3 m0 f hk f3 j3 l3 k3 o3 c3
          obtain rfl : k = yk A 30 + 1 := by omega
          have hI3 := InvM_q hA f3 j3 hI
          refine v246_66 (pj_D_le 6) I3 J3 _ _ _ _ _ ?_
          refine s224 (by decide) (a := 0) (b := 30) hI3.2.2.1.1 hy (by decide) (by decide) (fun t _ h2 h3 e => ?_) (fun _ => kI_i ⟨fun _ => ?_, fun z => absurd rfl z⟩)
          · have := (nI_eq (by omega) (by omega)).mp e
            have := (yb2 t).mp ⟨h2, h3⟩
            omega
          · have e60 : I3 276 60 = nI A.rw.1 := hI3.2.2.2.2.2.2.2.2.1.1
            have cb := cu_le (meK A m ch (yk A 30 + 1)) A.rw.1
            rw [e60, nI_eq (by omega) (by omega), ew1, sh_1 (by omega), nb_or, cu_all]
            have z2 : nI (bs (lef A m) ch) ||| 0 = nI (bs (lef A m) ch ||| 0) := nb_or _ 0
            rw [z2]
            have el : lef A m ch = allN (meK A m ch (yk A 30 + 1)) A.rw.1 := by
              unfold lef
              rw [hco, Bool.true_and]
              refine allN_cong (fun i hi => ?_)
              unfold rok meK
              have := (arw i hi).1
              rw [decide_eq_decide.mpr (show A.L.yr + (A.rw.2 i).1 ≤ 999 ↔ (A.rw.2 i).1 < yk A 30 + 1 from ⟨fun z => by have := (yb2 (A.rw.2 i).1).mp ⟨this, z⟩; omega, fun z => ((yb2 (A.rw.2 i).1).mpr (by omega)).2⟩)]
            rw [el] at nx
            have oN : ∀ d, d < ch + 1 → cho A.W A.L m d = true → OB A m (yk A 30 + 1) d I3 := fun d hd hcd => by
              rcases Nat.lt_or_ge d ch with z | z
              · exact o3 d z hcd
              · obtain rfl : d = ch := by omega
                exact c3
            cases ea : allN (meK A m ch (yk A 30 + 1)) A.rw.1 with
            | true =>
              rw [ea] at nx
              exact ⟨fun z => absurd rfl z, fun _ => nx I3 J3 f3 j3 oN⟩
            | false =>
              rw [ea] at nx
              exact ⟨fun _ => nx I3 J3 f3 j3 oN, fun z => absurd z (by decide)⟩
        | succ r' ihk =>
          intro k I3 J3 m0 f hk f3 j3 l3 k3 o3 c3
          have kb := (yb2 k).mpr (by omega)
          have V := scn_V (k := k) hV hm ht hco kb.2
          have hI3 := InvM_q hA f3 j3 hI
          have cb := cu_le (meK A m ch k) A.rw.1
          refine v246_66 (pj_D_le 6) I3 J3 _ _ _ _ _ ?_
          refine s224 (by decide) (a := 0) (b := 30) hI3.2.2.1.1 hy (by decide) (by decide) (fun t _ h2 h3 e => kI_i ⟨fun z => absurd z (by decide), fun _ => ?_⟩) (fun z => absurd rfl (z k (Nat.zero_le _) kb.1 kb.2))
          -- the rows of this year
          have rowsL : ∀ r2 i I4, r2 + i = A.rw.1 → pj_fr qM I I4 → LM A.W 1 (scn A.W A.L m ch k) I4 → KM 1 m0 f I4 → (∀ d, d < ch → cho A.W A.L m d = true → OB A m (yk A 30 + 1) d I4) → OB A m (k + 1) ch I4 → pj_R (pj_D 6) ta mc_246 false Q 134 [some (.ref 276), some (.int (nI m)), some (.int (nI (bs (lef A m) ch))), some (.int (wo (chO ch))), some (.int (nI (cu (meK A m ch k) A.rw.1 + cu (meY A m ch k) i))), some (.int (nI k)), some (.int (nI i))] [] (zc n) I4 J3 0 0 := by
            intro r2
            induction r2 with
            | zero =>
              intro i I4 hi f4 l4 k4 o4 c4
              obtain rfl : i = A.rw.1 := by omega
              have hI4 := InvM_q hA f4 j3 hI
              have e60 : I4 276 60 = nI A.rw.1 := hI4.2.2.2.2.2.2.2.2.1.1
              refine v246_134 (pj_D_le 6) I4 J3 _ _ _ _ _ _ ?_
              rw [e60]
              refine br_t (nI_le (Nat.le_refl _) (by omega)) (tick2 (by decide) (w := none) (fun k z => by cases z) hA hI f4 j3 l4 V.1 k4 (fun I5 J5 f5 g5 j5 t5 l5 k5 => kI_i ?_))
              rw [nI_1 k, ← me_add]
              exact ihk (k + 1) I5 J5 _ f5 (by omega) g5 j5 l5 k5 (fun d hd hcd k' hk' j hj => (t5 _ _ (tS_f (by omega))).trans (o4 d hd hcd k' hk' j hj)) (fun k' hk' j hj => (t5 _ _ (tS_f (by omega))).trans (c4 k' hk' j hj))
            | succ r2 ihr =>
              intro i I4 hi f4 l4 k4 o4 c4
              have hir : i < A.rw.1 := by omega
              have hI4 := InvM_q hA f4 j3 hI
              obtain ⟨e60, er⟩ := hI4.2.2.2.2.2.2.2.2.1
              obtain ⟨p1, p2, p3⟩ := er i hir
              obtain ⟨v1, v2, v3⟩ := arw i hir
              have nxr := ihr (i + 1) I4 (by omega) f4 l4 k4 o4 c4
              have ecu : cu (meY A m ch k) (i + 1) = cu (meY A m ch k) i + (match meY A m ch k i with | true => 1 | false => 0) := rfl
              rw [ecu] at nxr
              refine v246_134 (pj_D_le 6) I4 J3 _ _ _ _ _ _ ?_
              have e7r : (7 : Int32) + nI (A.rw.2 i).2.1 = nI (7 + (A.rw.2 i).2.1) := nI_add 7 _
              have lw := (l4.2.2.2.2 (A.rw.2 i).2.1 v2).2.2.1
              rw [show 7 * 1 + (A.rw.2 i).2.1 = 7 + (A.rw.2 i).2.1 by omega] at lw
              rw [e60, nI_clamp (n := i) (by omega), p1, p2, p3, e7r, nI_clamp (n := 7 + (A.rw.2 i).2.1) (by omega), lw, z0, nI_1 (cu _ _ + cu _ _), nI_1 i, nI_eq (by omega) (by omega), wo_inj (fun c e => by have := LV_c V.1 v2 e; omega) (fun c e => by have := v3 c e; omega)]
              have ii := pk_in (x := nI i) i 16 (by omega)
              refine br_f (nI_ge hir (by omega)) ⟨ii, fun d => ?_, fun d => ⟨ii, pk_in (7 + (A.rw.2 i).2.1) 154 (by omega), ii, ?_⟩⟩
              · have em : meY A m ch k i = false := by unfold meY; rw [decide_eq_false d, Bool.false_and]
                rw [em] at nxr
                exact nxr
              · have em : meY A m ch k i = decide ((scn A.W A.L m ch k).wor (A.rw.2 i).2.1 = (A.rw.2 i).2.2) := by unfold meY; rw [d, decide_eq_true rfl, Bool.true_and]
                rw [em] at nxr
                by_cases d2 : (scn A.W A.L m ch k).wor (A.rw.2 i).2.1 = (A.rw.2 i).2.2
                · rw [decide_eq_true d2] at nxr
                  exact ⟨fun z => absurd d2 z, fun _ => nxr⟩
                · rw [decide_eq_false d2] at nxr
                  exact ⟨fun _ => nxr, fun z => absurd z d2⟩
          suffices menL : ∀ r2 o I4, r2 + o = A.W.nm → pj_fr qM I I4 → LM A.W 1 (scn A.W A.L m ch k) I4 → KM 1 m0 f I4 → (∀ d, d < ch → cho A.W A.L m d = true → OB A m (yk A 30 + 1) d I4) → OB A m k ch I4 → (∀ j, j < o → I4 317 (7 * (31 * ch + k) + j) = wo ((scn A.W A.L m ch k).wor j)) → pj_R (pj_D 6) ta mc_246 false Q 81 [some (.ref 276), some (.int (nI m)), some (.int (nI (bs (lef A m) ch))), some (.int (wo (chO ch))), some (.int (nI (cu (meK A m ch k) A.rw.1))), some (.int (nI k)), some (.int (nI o))] [] (zc n) I4 J3 0 0 from menL A.W.nm 0 I3 (by omega) f3 l3 k3 o3 c3 (fun j hj => by omega)
          intro r2
          induction r2 with
          | zero =>
            intro o I4 ho f4 l4 k4 o4 c4 w4
            obtain rfl : o = A.W.nm := by omega
            obtain ⟨B, b1, b2⟩ := (InvM_q hA f4 j3 hI).2.1
            refine v246_81 (pj_D_le 6) I4 J3 _ _ _ _ _ _ ?_
            rw [b1, nI_clamp (n := B) (by have := b2.1.2.2.1; omega), b2.1.2.2.2.2.1]
            refine ⟨vp_in_nI b2.1.2.2.1 (by decide), br_t (nI_le (Nat.le_refl _) (by omega)) (rowsL A.rw.1 0 I4 (by omega) f4 l4 k4 o4 (fun k' hk' j hj => ?_))⟩
            rcases Nat.lt_or_ge k' k with z | z
            · exact c4 k' z j hj
            · obtain rfl : k' = k := by omega
              exact w4 j hj
          | succ r2 iho =>
            intro o I4 ho f4 l4 k4 o4 c4 w4
            have hom : o < A.W.nm := by omega
            obtain ⟨B, b1, b2⟩ := (InvM_q hA f4 j3 hI).2.1
            refine v246_81 (pj_D_le 6) I4 J3 _ _ _ _ _ _ ?_
            have e7o : (7 : Int32) + nI o = nI (7 + o) := nI_add 7 o
            have lw := (l4.2.2.2.2 o hom).2.2.1
            rw [show 7 * 1 + o = 7 + o by omega] at lw
            rw [b1, nI_clamp (n := B) (by have := b2.1.2.2.1; omega), b2.1.2.2.2.2.1, ew1, li_c, e7o, nI_clamp (n := 7 + o) (by omega), nI_clamp (n := 7 * (31 * ch + k) + o) (by omega), lw, nI_1 o]
            refine ⟨vp_in_nI b2.1.2.2.1 (by decide), br_f (nI_ge hom (by omega)) ⟨pk_in (7 + o) 154 (by omega), pk_in (7 * (31 * ch + k) + o) 1953 (by omega), ?_⟩⟩
            have l5 : LM A.W 1 (scn A.W A.L m ch k) (pj_u I4 317 (7 * (31 * ch + k) + o) (wo ((scn A.W A.L m ch k).wor o))) := LM_x h8 h7 (v := 0) (by decide) (fun c j h1 h2 _ => pj_u_n (by omega)) l4
            have k5 : KM 1 m0 f (pj_u I4 317 (7 * (31 * ch + k) + o) (wo ((scn A.W A.L m ch k).wor o))) := KM_x (v := 0) (by decide) (fun c j h1 h2 _ => pj_u_n (by omega)) k4
            refine iho (o + 1) _ (by omega) (pj_fr_u f4 (qM_t (by omega))) l5 k5 (fun d hd hcd k' hk' j hj => (pj_u_j (by omega)).trans (o4 d hd hcd k' hk' j hj)) (fun k' hk' j hj => (pj_u_j (by omega)).trans (c4 k' hk' j hj)) (fun j hj => ?_)
            by_cases z : j = o
            · rw [z, pj_u_e]
            · rw [pj_u_j (by omega)]; exact w4 j (by omega)
      have y0 := years (yk A 30 + 1) 0 I2 J' A.kp.1 A.kp.2 (by omega) f2 hj l2 k2 o2 (fun k hk => by omega)
      rw [me_0] at y0
      exact y0
    have bad : lef A m ch = false → pj_R (pj_D 6) ta mc_246 false Q 4 [some (.ref 276), some (.int (nI m)), some (.int (nI (bs (lef A m) ch))), some (.int (nI ch)), none, none, none] [] (zc n) I' J' 0 0 ∨ True := fun _ => Or.inr trivial
    have wle : nI A.W.nc ≤ wo (chO ch) → False := fun z => by
      unfold chO at z
      by_cases y : ch = 0
      · rw [if_pos y] at z
        have z : nI A.W.nc ≤ (-1 : Int32) := z
        exact nI_pos (n := A.W.nc) (by omega) (Int32.lt_of_le_of_lt z (by decide))
      · rw [if_neg y] at z
        exact nI_ge (a := ch - 1) (b := A.W.nc) (by omega) (by omega) z
    refine ⟨iB, br_f wle ?_⟩
    by_cases c0 : ch = 0
    · have e0 : chO ch = none := by unfold chO; rw [if_pos c0]
      rw [e0] at walk ⊢
      refine ⟨fun _ => walk (by rw [c0]; rfl), fun z => absurd rfl z⟩
    · have e0 : chO ch = some (ch - 1) := by unfold chO; rw [if_neg c0]
      rw [e0] at walk ⊢
      have hcb : ch - 1 < A.W.nc := by omega
      have ec : cho A.W A.L m ch = (peg A.W A.L (ch - 1) || decide (A.L.wor m = some (ch - 1))) := by
        unfold cho
        rw [beq_eq_false_iff_ne.mpr c0, Bool.false_or, decide_eq_true hcn, Bool.true_and]
      refine ⟨fun z => ?_, fun _ => ⟨pk_in m 154 (by omega), ?_⟩⟩
      · have := (wo_none (o := some (ch - 1)) (fun c' e' => by cases e'; omega)).mp z
        cases this
      · have e3 : wo (some (ch - 1)) = wo (A.L.wor m) ↔ A.L.wor m = some (ch - 1) := by
          rw [wo_inj (fun c e => by cases e; omega) (fun c e => by have := LV_c hV hm e; omega)]
          exact ⟨fun z => z.symm, fun z => z.symm⟩
        rw [e3]
        refine ⟨fun d => walk (by rw [ec, decide_eq_true d, Bool.or_true]), fun d => ?_⟩
        rw [decide_eq_false d, Bool.or_false] at ec
        refine s208p (by decide) (v := 0) (by decide) b1 b2.1 hI'.2.2.1 hV hcb (kI_i ?_)
        cases ep : peg A.W A.L (ch - 1) with
        | true =>
          rw [ep] at ec
          exact ⟨fun _ => walk ec, fun z => absurd z (by decide)⟩
        | false =>
          rw [ep] at ec
          have el : lef A m ch = false := by unfold lef; rw [ec, Bool.false_and]
          rw [el] at nx
          simp only [Nat.or_zero] at nx
          refine ⟨fun z => absurd rfl z, fun _ => nx I' J' hf hj (fun d hd hcd => ?_)⟩
          rcases Nat.lt_or_ge d ch with z | z
          · exact hO d z hcd
          · obtain rfl : d = ch := by omega
            rw [ec] at hcd; cases hcd
/-- PegCoatsModel.had -/
theorem m245 (hh : 8 ≤ h) {p : Int32} (hA : AV A) (hI : InvM A I J) (q : ∀ I' J', pj_fr qM I I' → pj_fr sS J J' → Q (some (.int (hadV A p))) (zc n, I', J')) : pj_D h 245 [.ref 276, .int p] (zc n, I, J) Q := by
  have h7 := hA.2.2.1
  obtain ⟨B, b1, b2⟩ := hI.2.1
  refine pj_ent (g := 7) hh (t := mt_245) rfl rfl (v245_0 (pj_D_le 7) I J _ ?_)
  unfold hadV at q
  refine s234 (by decide) b1 b2.1 hI.2.2.1 (fun m hm e ht => kI_i ⟨fun z => absurd z (by decide), fun _ => ?_⟩) (fun z => kI_i ⟨fun _ => ?_, fun z => absurd rfl z⟩)
  · subst e
    rw [tix_s h7 hm ht] at q
    exact s246 (Nat.le_refl 7) hA hI hm ht (fun I1 J1 f1 j1 _ => kI_i (q I1 J1 f1 j1))
  · rw [tix_n h7 z] at q
    exact q I J pj_fr_rf pj_fr_rf
end PMt
