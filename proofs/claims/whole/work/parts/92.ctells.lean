/-! tells: the class -/
theorem cuv_le {p : Nat → Bool} {g : Nat → Nat} {v k : Nat} : cuv p g v k ≤ k := cu_le _ _
theorem moC_le {p : Nat → Bool} {g : Nat → Nat} : ∀ {k : Nat}, moC p g k ≤ k
  | 0 => Nat.le_refl _
  | k + 1 => by
    have ih := moC_le (p := p) (g := g) (k := k)
    have := cuv_le (p := p) (g := g) (v := g k) (k := k + 1)
    unfold moC
    cases p k with
    | true => simp only; split <;> omega
    | false => simp only; omega
/-- what stands for the best so far -/
def tF (s : Ts) (I : Nat → Nat → Int32) : Prop := match s with
  | none => I 251 9 = -1 ∧ I 251 10 = -1 ∧ I 251 11 = -1
  | some t => I 251 9 = nI t.1 ∧ I 251 10 = nI t.2.1 ∧ I 251 11 = nI t.2.2 ∧ t.2.2 ≤ 9
section PTe
variable {n h : Nat} {Q : pj_K} {I : Nat → Nat → Int32} {J : Nat → Nat → Int64} {A : Ab}
def kF : Nat → Nat → Bool := fun c _ => c == 271
/-- Telling.mostLeft -/
theorem s97 (hh : 2 ≤ h) {m y k j : Nat} (h8 : A.W.nc ≤ 8) (h7 : A.W.nm ≤ 7) (g8 : I 251 8 = nI (bs (lef A m) 9)) (hO : ∀ ch, ch < 9 → cho A.W A.L m ch = true → OT A m y ch I) (hk : k ≤ y) (hy : y ≤ 30) (hj : j < A.W.nm) (q : ∀ I', pj_fr kF I I' → Q (some (.int (nI (mo A m k j)))) (zc n, I', J)) : pj_D h 97 [.ref 251, .int (nI k), .int (nI j)] (zc n, I, J) Q := by
  refine pj_ent (g := 1) hh (t := mt_97) rfl rfl (v97_0 (pj_D_le 1) I J _ _ ?_)
  have h29 : bs (lef A m) 9 < 2 ^ 31 := Nat.lt_of_lt_of_le (bs_lt _ _) (by decide)
  have k8 : ∀ {I' : Nat → Nat → Int32}, pj_fr kF I I' → I' 251 8 = nI (bs (lef A m) 9) := fun hf => (hf 251 8 rfl).trans g8
  have second : ∀ r ch I', r + ch = 9 → pj_fr kF I I' → (∀ v, v < 9 → I' 271 v = nI (cuv (lef A m) (fun ch => wv (scn A.W A.L m ch k) j) v ch)) → pj_R (pj_D 1) ta mc_97 false Q 26 [some (.ref 251), some (.int (nI k)), some (.int (nI j)), some (.int (nI (moC (lef A m) (fun ch => wv (scn A.W A.L m ch k) j) ch))), some (.int (nI ch)), none] [] (zc n) I' J 0 0 := by
    intro r
    induction r with
    | zero =>
      intro ch I' hc hf hv
      obtain rfl : ch = 9 := by omega
      exact v97_26 (pj_D_le 1) I' J _ _ _ _ (br_t (by decide) (q I' hf))
    | succ r ih =>
      intro ch I' hc hf hv
      have hch : ch < 9 := by omega
      have nx := fun I2 => ih (ch + 1) I2 (by omega)
      have em : moC (lef A m) (fun ch => wv (scn A.W A.L m ch k) j) (ch + 1) = match lef A m ch with
        | true => if moC (lef A m) (fun ch => wv (scn A.W A.L m ch k) j) ch < cuv (lef A m) (fun ch => wv (scn A.W A.L m ch k) j) (wv (scn A.W A.L m ch k) j) (ch + 1) then cuv (lef A m) (fun ch => wv (scn A.W A.L m ch k) j) (wv (scn A.W A.L m ch k) j) (ch + 1) else moC (lef A m) (fun ch => wv (scn A.W A.L m ch k) j) ch
        | false => moC (lef A m) (fun ch => wv (scn A.W A.L m ch k) j) ch := rfl
      rw [em] at nx
      have ec : ∀ v, cuv (lef A m) (fun ch => wv (scn A.W A.L m ch k) j) v (ch + 1) = cuv (lef A m) (fun ch => wv (scn A.W A.L m ch k) j) v ch + (match lef A m ch && decide (wv (scn A.W A.L m ch k) j = v) with | true => 1 | false => 0) := fun v => rfl
      refine v97_26 (pj_D_le 1) I' J _ _ _ _ ?_
      rw [k8 hf, nb_bit h29 (by omega), bs_bit, decide_eq_true hch, Bool.true_and, nI_1 ch]
      refine br_f (nI_ge (b := 9) hch (by decide)) ?_
      cases e : lef A m ch with
      | false =>
        rw [e] at nx
        refine ⟨fun z => absurd rfl z, fun _ => nx I' hf (fun v hv9 => ?_)⟩
        rw [ec, e, Bool.false_and]
        exact hv v hv9
      | true =>
        rw [e] at nx
        have hco : cho A.W A.L m ch = true := by
          unfold lef at e
          rw [Bool.and_eq_true] at e
          exact e.1
        have hO' : OT A m y ch I' := fun i hi => (hf _ _ (by unfold kF; exact beq_eq_false_iff_ne.mpr (by omega))).trans (hO ch hch hco i hi)
        have w9 := wv_9 (scn A.W A.L m ch k) j
        refine ⟨fun _ => s95 (Nat.le_refl 1) h7 hO' hch hk hy hj (kI_i ?_), fun z => absurd z (by decide)⟩
        have ecw := ec (wv (scn A.W A.L m ch k) j)
        rw [e, decide_eq_true rfl] at ecw
        have ecw : cuv (lef A m) (fun ch => wv (scn A.W A.L m ch k) j) (wv (scn A.W A.L m ch k) j) (ch + 1) = cuv (lef A m) (fun ch => wv (scn A.W A.L m ch k) j) (wv (scn A.W A.L m ch k) j) ch + 1 := ecw
        have cb := cuv_le (p := lef A m) (g := fun ch => wv (scn A.W A.L m ch k) j) (v := wv (scn A.W A.L m ch k) j) (k := ch)
        have mb := moC_le (p := lef A m) (g := fun ch => wv (scn A.W A.L m ch k) j) (k := ch)
        have iw := pk_in (x := nI (wv (scn A.W A.L m ch k) j)) (wv (scn A.W A.L m ch k) j) 9 w9
        rw [nI_clamp (n := wv (scn A.W A.L m ch k) j) (by omega), pj_u_e, hv _ w9, nI_1 (cuv _ _ _ _)]
        refine br_f (nI_ge (b := 9) w9 (by decide)) ⟨iw, iw, iw, ?_⟩
        rw [ecw] at nx
        have hX : ∀ v, v < 9 → pj_u I' 271 (wv (scn A.W A.L m ch k) j) (nI (cuv (lef A m) (fun ch => wv (scn A.W A.L m ch k) j) (wv (scn A.W A.L m ch k) j) ch + 1)) 271 v = nI (cuv (lef A m) (fun ch => wv (scn A.W A.L m ch k) j) v (ch + 1)) := fun v hv9 => by
          by_cases z : v = wv (scn A.W A.L m ch k) j
          · rw [z, pj_u_e, ecw]
          · rw [pj_u_j z, hv v hv9, ec v, e, decide_eq_false (fun y => z y.symm)]
            rfl
        have nx := nx _ (pj_fr_u hf rfl) hX
        by_cases c : moC (lef A m) (fun ch => wv (scn A.W A.L m ch k) j) ch < cuv (lef A m) (fun ch => wv (scn A.W A.L m ch k) j) (wv (scn A.W A.L m ch k) j) ch + 1
        · simp only at nx
          rw [if_pos c] at nx
          rw [if_pos (nI_lt c (by omega))]
          exact nx
        · simp only at nx
          rw [if_neg c] at nx
          rw [if_neg (nI_nlt (by omega) (by omega))]
          exact nx
  suffices first : ∀ r v I', r + v = 9 → pj_fr kF I I' → (∀ u, u < v → I' 271 u = 0) → pj_R (pj_D 1) ta mc_97 false Q 2 [some (.ref 251), some (.int (nI k)), some (.int (nI j)), some (.int (nI v)), none, none] [] (zc n) I' J 0 0 from first 9 0 I (by decide) pj_fr_rf (fun u hu => by omega)
  intro r
  induction r with
  | zero =>
    intro v I' hv hf hz
    obtain rfl : v = 9 := by omega
    exact v97_2 (pj_D_le 1) I' J _ _ _ (br_t (by decide) (second 9 0 I' (by decide) hf (fun u hu => hz u hu)))
  | succ r ih =>
    intro v I' hv hf hz
    refine v97_2 (pj_D_le 1) I' J _ _ _ (br_f (nI_ge (b := 9) (by omega) (by decide)) ⟨pk_in v 9 (by omega), ?_⟩)
    rw [nI_clamp (n := v) (by omega), nI_1]
    refine ih (v + 1) _ (by omega) (pj_fr_u hf rfl) (fun u hu => ?_)
    by_cases z : u = v
    · rw [z, pj_u_e]
    · rw [pj_u_j z]; exact hz u (by omega)
/-- Telling.choose -/
theorem s96 (hh : 3 ≤ h) {m : Nat} (hA : AV A) (hI : InvC A I) (g7 : I 251 7 = nI (yk A 30)) (g8 : I 251 8 = nI (bs (lef A m) 9)) (hO : ∀ ch, ch < 9 → cho A.W A.L m ch = true → OT A m (yk A 30) ch I) (q : ∀ I', pj_fr qC I I' → tF (tbs A m) I' → Q none (zc n, I', J)) : pj_D h 96 [.ref 251] (zc n, I, J) Q := by
  have h8 := hA.2.1
  have h7 := hA.2.2.1
  have h29 : bs (lef A m) 9 < 2 ^ 31 := Nat.lt_of_lt_of_le (bs_lt _ _) (by decide)
  have yb : yk A 30 ≤ 30 := by unfold yk; split <;> omega
  refine pj_ent (g := 2) hh (t := mt_96) rfl rfl (v96_0 (pj_D_le 2) I J ?_)
  have z0 : nI (bs (lef A m) 9) = 0 ↔ bs (lef A m) 9 = 0 := nI_eq (b := 0) h29 (by decide)
  have q9 : ∀ j, j ≠ 4 → qC 251 j = true := fun j hj => qC_t (by omega)
  have f0 : pj_fr qC I (pj_u (pj_u (pj_u I 251 9 (-1)) 251 10 (-1)) 251 11 (-1)) := pj_fr_u (pj_fr_u (pj_fr_u pj_fr_rf (q9 _ (by decide))) (q9 _ (by decide))) (q9 _ (by decide))
  rw [g8, z0]
  unfold tbs at q
  refine ⟨fun c => ?_, fun c => ?_⟩
  · rw [if_neg c] at q
    generalize yk A 30 = y at g7 hO q yb
    -- the frame of the walk
    have outer : ∀ r k (s : Ts) I', r + k = y + 1 → pj_fr qC I I' → I' 251 7 = nI y → I' 251 8 = nI (bs (lef A m) 9) → (∀ ch, ch < 9 → cho A.W A.L m ch = true → OT A m y ch I') → tF s I' → tbK A m r k s = tbK A m y 1 none → pj_R (pj_D 2) ta mc_96 false Q 25 [some (.ref 251), some (.int (nI k)), none, none] [] (zc n) I' J 0 0 := by
      intro r
      induction r with
      | zero =>
        intro k s I' hk hf e7 e8 eO eF es
        have es : s = tbK A m y 1 none := es
        refine v96_25 (pj_D_le 2) I' J _ ?_
        rw [e7]
        exact br_t (nI_lt (by omega) (by omega)) (q I' hf (by rw [← es]; exact eF))
      | succ r ih =>
        intro k s I' hk hf e7 e8 eO eF es
        have es : tbK A m r (k + 1) (tbJ A m k A.W.nm 0 s) = tbK A m y 1 none := es
        refine v96_25 (pj_D_le 2) I' J _ ?_
        rw [e7]
        refine br_f (nI_nlt (by omega) (by omega)) ?_
        suffices inner : ∀ r' j (t : Ts) I', r' + j = A.W.nm → pj_fr qC I I' → I' 251 7 = nI y → I' 251 8 = nI (bs (lef A m) 9) → (∀ ch, ch < 9 → cho A.W A.L m ch = true → OT A m y ch I') → tF t I' → tbJ A m k r' j t = tbJ A m k A.W.nm 0 s → pj_R (pj_D 2) ta mc_96 false Q 35 [some (.ref 251), some (.int (nI k)), some (.int (nI j)), none] [] (zc n) I' J 0 0 from inner A.W.nm 0 s I' (by omega) hf e7 e8 eO eF rfl
        intro r'
        induction r' with
        | zero =>
          intro j t I' hj hf e7 e8 eO eF et
          obtain rfl : j = A.W.nm := by omega
          have et : t = tbJ A m k A.W.nm 0 s := et
          refine v96_35 (pj_D_le 2) I' J _ _ ?_
          rw [(InvC_q hf hI).2.1.1.2.2.2.1, nI_1]
          exact br_t (nI_le (Nat.le_refl _) (by omega)) (ih (k + 1) t I' (by omega) hf e7 e8 eO eF (by rw [et]; exact es))
        | succ r' ihj =>
          intro j t I' hj hf e7 e8 eO eF et
          have et : tbJ A m k r' (j + 1) (tb1 A m k j t) = tbJ A m k A.W.nm 0 s := et
          refine v96_35 (pj_D_le 2) I' J _ _ ?_
          rw [(InvC_q hf hI).2.1.1.2.2.2.1]
          refine br_f (nI_ge (by omega) (by omega)) (s97 (Nat.le_refl 2) h8 h7 e8 eO (by omega) yb (by omega) (fun I2 f2 => kI_i ?_))
          have f2q : pj_fr qC I I2 := pj_fr_tr hf (pj_fr_w f2 (fun c j hc => by
            have := qC_f hc
            unfold kF
            exact beq_eq_false_iff_ne.mpr (by omega)))
          have o2 : ∀ c j, c ≠ 271 → I2 c j = I' c j := fun c j hc => f2 c j (beq_eq_false_iff_ne.mpr hc)
          have mb : mo A m k j ≤ 9 := moC_le
          have nx := fun t2 I3 => ihj (j + 1) t2 I3 (by omega)
          have keep : pj_R (pj_D 2) ta mc_96 false Q 35 [some (.ref 251), some (.int (nI k)), some (.int (nI (j + 1))), none] [] (zc n) I2 J 0 0 ∨ True := Or.inr trivial
          have new : tb1 A m k j t = some (k, j, mo A m k j) → pj_R (pj_D 2) ta mc_96 false Q 35 [some (.ref 251), some (.int (nI k)), some (.int (nI (j + 1))), none] [] (zc n) (pj_u (pj_u (pj_u I2 251 9 (nI k)) 251 10 (nI j)) 251 11 (nI (mo A m k j))) J 0 0 := fun e1 => by
            rw [e1] at et
            refine nx (some (k, j, mo A m k j)) _ (pj_fr_u (pj_fr_u (pj_fr_u f2q (q9 _ (by decide))) (q9 _ (by decide))) (q9 _ (by decide))) ?_ ?_ (fun ch hc hco i hi => ?_) ⟨rfl, rfl, rfl, mb⟩ et
            · exact ((pj_u_j (by decide)).trans ((pj_u_j (by decide)).trans (pj_u_j (by decide)))).trans ((o2 _ _ (by decide)).trans e7)
            · exact ((pj_u_j (by decide)).trans ((pj_u_j (by decide)).trans (pj_u_j (by decide)))).trans ((o2 _ _ (by decide)).trans e8)
            · exact ((pj_u_n (by omega)).trans ((pj_u_n (by omega)).trans (pj_u_n (by omega)))).trans ((o2 _ _ (by omega)).trans (eO ch hc hco i hi))
          have old : tb1 A m k j t = t → pj_R (pj_D 2) ta mc_96 false Q 35 [some (.ref 251), some (.int (nI k)), some (.int (nI (j + 1))), none] [] (zc n) I2 J 0 0 := fun e1 => by
            rw [e1] at et
            refine nx t I2 f2q ((o2 _ _ (by decide)).trans e7) ((o2 _ _ (by decide)).trans e8) (fun ch hc hco i hi => (o2 _ _ (by omega)).trans (eO ch hc hco i hi)) ?_ et
            cases t with
            | none => exact ⟨(o2 _ _ (by decide)).trans eF.1, (o2 _ _ (by decide)).trans eF.2.1, (o2 _ _ (by decide)).trans eF.2.2⟩
            | some t => exact ⟨(o2 _ _ (by decide)).trans eF.1, (o2 _ _ (by decide)).trans eF.2.1, (o2 _ _ (by decide)).trans eF.2.2.1, eF.2.2.2⟩
          rw [nI_1 j]
          cases t with
          | none =>
            have e11 : I2 251 11 = -1 := (o2 _ _ (by decide)).trans eF.2.2
            rw [e11]
            exact ⟨fun _ => new rfl, fun z => absurd rfl z⟩
          | some t =>
            have e11 : I2 251 11 = nI t.2.2 := (o2 _ _ (by decide)).trans eF.2.2.1
            have tb := eF.2.2.2
            rw [e11]
            refine ⟨fun z => ?_, fun _ => pk_le t.2.2 (mo A m k j) (fun d => old ?_) (fun d => new ?_)⟩
            · have := (wo_none (o := some t.2.2) (fun c' e' => by cases e'; omega)).mp z
              cases this
            · show (if mo A m k j < t.2.2 then _ else _) = _
              rw [if_neg (by omega)]
            · show (if mo A m k j < t.2.2 then _ else _) = _
              rw [if_pos d]
    exact outer y 1 none _ (by omega) f0 (((pj_u_j (by decide)).trans ((pj_u_j (by decide)).trans (pj_u_j (by decide)))).trans g7) (((pj_u_j (by decide)).trans ((pj_u_j (by decide)).trans (pj_u_j (by decide)))).trans g8) (fun ch hc hco i hi => ((pj_u_n (by omega)).trans ((pj_u_n (by omega)).trans (pj_u_n (by omega)))).trans (hO ch hc hco i hi)) ⟨rfl, rfl, rfl⟩ rfl
  · rw [if_pos c] at q
    exact q _ f0 ⟨rfl, rfl, rfl⟩
/-- PegCoats.tells -/
theorem c141 (hh : 8 ≤ h) {p r : Int32} (hA : AV A) (hI : InvC A I) (q : ∀ I', pj_fr qC I I' → Q (some (.int (tellsV A p r))) (zc n, I', J)) : pj_D h 141 [.ref 2, .int p, .int r] (zc n, I, J) Q := by
  have h7 := hA.2.2.1
  have hy := hA.2.2.2.1.1
  have arw := hA.2.2.2.2.2.2.2.2.2.2.2.1
  refine pj_ent (g := 7) hh (t := mt_141) rfl rfl (v141_0 (pj_D_le 7) I J _ _ ?_)
  unfold tellsV at q
  refine s131 (by decide) hI.2.1.1 hI.2.2.1 (fun m hm e ht => kI_i ⟨fun z => absurd z (by decide), fun _ => ?_⟩) (fun z => kI_i ⟨fun _ => ?_, fun z => absurd rfl z⟩)
  · subst e
    rw [tix_s h7 hm ht] at q
    simp only at q
    have no : ¬ (r = 0 ∨ r = 1 ∨ r = 2) → Q (some (.int (-1))) (zc n, I, J) := fun z => by
      have q := q I pj_fr_rf
      rw [if_neg (fun e => z (Or.inl e)), if_neg (fun e => z (Or.inr (Or.inl e))), if_neg (fun e => z (Or.inr (Or.inr e)))] at q
      exact q
    refine ⟨fun c => no (fun z => by rcases z with rfl | rfl | rfl <;> exact absurd c (by decide)), fun c => ⟨fun c2 => ?_, fun c2 => no (fun z => by rcases z with rfl | rfl | rfl <;> exact absurd (by decide) c2)⟩⟩
    refine s91 (Nat.le_refl 7) (Y := 30) hA hI hm ht (by decide) (fun I1 f1 g7 g8 gO => kV_i ?_)
    rw [bs_cong (p' := lef A m) (fun ch _ => lefY_e (fun i hi => by have := (arw i hi).1; unfold yk; split <;> omega))] at g8
    refine s96 (by decide) hA (InvC_q f1 hI) g7 g8 gO (fun I2 f2 eF => kV_i ?_)
    have q := q I2 (pj_fr_tr f1 f2)
    obtain ⟨k, hk, rfl⟩ := nI_of c
    have k2 : k ≤ 2 := (nI_leI (b := 2) hk (by decide)).mp c2
    cases et : tbs A m with
    | none =>
      rw [et] at q eF
      rw [eF.1, eF.2.1, eF.2.2]
      simp only [ite_self] at q
      exact ⟨fun _ => q, fun _ => ⟨fun _ => q, fun _ => q⟩⟩
    | some t =>
      rw [et] at q eF
      rw [eF.1, eF.2.1, eF.2.2.1]
      refine ⟨fun d => by rw [if_pos d] at q; exact q, fun d => ⟨fun d1 => by rw [if_neg d, if_pos d1] at q; exact q, fun d1 => ?_⟩⟩
      rw [if_neg d, if_neg d1] at q
      obtain rfl | rfl | rfl : k = 0 ∨ k = 1 ∨ k = 2 := by omega
      · exact absurd rfl d
      · exact absurd rfl d1
      · exact q
  · rw [tix_n h7 z] at q
    exact q I pj_fr_rf
end PTe
