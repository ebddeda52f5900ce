/-! had, tells: the class, whole -/
def lefY (A : Ab) (m y ch : Nat) : Bool := cho A.W A.L m ch && allN (rokY A m y ch) A.rw.1
theorem allN_cong {p p' : Nat → Bool} : ∀ {k : Nat}, (∀ j, j < k → p j = p' j) → allN p k = allN p' k
  | 0, _ => rfl
  | k + 1, h => by
    unfold allN
    rw [allN_cong (k := k) (fun j hj => h j (by omega)), h k (by omega)]
theorem lefY_e {A : Ab} {m y ch : Nat} (h : ∀ i, i < A.rw.1 → ((A.rw.2 i).1 ≤ y ↔ A.L.yr + (A.rw.2 i).1 ≤ 999)) : lefY A m y ch = lef A m ch := by
  unfold lefY lef
  rw [allN_cong (p' := rok A m ch) (fun j hj => ?_)]
  unfold rokY rok
  rw [decide_eq_decide.mpr (h j hj)]
def latN (A : Ab) : Nat → Nat
  | 0 => 0
  | k + 1 => if latN A k < (A.rw.2 k).1 then (A.rw.2 k).1 else latN A k
theorem latN_b {A : Ab} (h : ∀ i, i < A.rw.1 → (A.rw.2 i).1 ≤ 30) : ∀ {k : Nat}, k ≤ A.rw.1 → latN A k ≤ 30 ∧ ∀ i, i < k → (A.rw.2 i).1 ≤ latN A k
  | 0, _ => ⟨Nat.zero_le _, fun i hi => by omega⟩
  | k + 1, hk => by
    have ih := latN_b h (k := k) (by omega)
    have hb := h k (by omega)
    unfold latN
    by_cases c : latN A k < (A.rw.2 k).1
    · rw [if_pos c]
      refine ⟨hb, fun i hi => ?_⟩
      rcases Nat.lt_or_ge i k with z | z
      · have := ih.2 i z; omega
      · obtain rfl : i = k := by omega
        exact Nat.le_refl _
    · rw [if_neg c]
      refine ⟨ih.1, fun i hi => ?_⟩
      rcases Nat.lt_or_ge i k with z | z
      · exact ih.2 i z
      · obtain rfl : i = k := by omega
        omega
theorem wv_9 (L : Ly) (j : Nat) : wv L j < 9 := by
  unfold wv
  split
  · decide
  · split <;> omega
/-- years that can be known -/
def yk (A : Ab) (Y : Nat) : Nat := if 999 - A.L.yr < Y then 999 - A.L.yr else Y
def mo (A : Ab) (m k j : Nat) : Nat := moC (lef A m) (fun ch => wv (scn A.W A.L m ch k) j) 9
abbrev Ts : Type := Option (Nat × Nat × Nat)
def tb1 (A : Ab) (m k j : Nat) (s : Ts) : Ts := match s with
  | none => some (k, j, mo A m k j)
  | some t => if mo A m k j < t.2.2 then some (k, j, mo A m k j) else some t
def tbJ (A : Ab) (m k : Nat) : Nat → Nat → Ts → Ts
  | 0, _, s => s
  | r + 1, j, s => tbJ A m k r (j + 1) (tb1 A m k j s)
def tbK (A : Ab) (m : Nat) : Nat → Nat → Ts → Ts
  | 0, _, s => s
  | r + 1, k, s => tbK A m r (k + 1) (tbJ A m k A.W.nm 0 s)
def tbs (A : Ab) (m : Nat) : Ts := if bs (lef A m) 9 = 0 then none else tbK A m (yk A 30) 1 none
def tellsV (A : Ab) (p r : Int32) : Int32 := match tix A.W A.L p with
  | none => -1
  | some m => if r = 0 then (match tbs A m with | none => -1 | some t => nI t.1) else if r = 1 then (match tbs A m with | none => -1 | some t => nI t.2.1) else if r = 2 then (match tbs A m with | none => -1 | some t => nI t.2.2) else -1
section PHe
variable {n h : Nat} {Q : pj_K} {I : Nat → Nat → Int32} {J : Nat → Nat → Int64} {A : Ab}
theorem qC_t {c j : Nat} (h : (16 ≤ c ∧ c ≤ 17) ∨ c = 34 ∨ (221 ≤ c ∧ c ≤ 250) ∨ (252 ≤ c ∧ c ≤ 259) ∨ (261 ≤ c ∧ c ≤ 271) ∨ (c = 251 ∧ j ≠ 4)) : qC c j = true := by
  cases e : qC c j with
  | true => rfl
  | false => have := qC_f e; omega
/-- Telling.gather -/
theorem s91 (hh : 7 ≤ h) {m Y : Nat} (hA : AV A) (hI : InvC A I) (hm : m < A.W.nm) (ht : A.L.the m = true) (hY : Y ≤ 30) (q : ∀ I', pj_fr qC I I' → I' 251 7 = nI (yk A Y) → I' 251 8 = nI (bs (lefY A m (yk A Y)) 9) → (∀ ch, ch < 9 → cho A.W A.L m ch = true → OT A m (yk A Y) ch I') → Q none (zc n, I', J)) : pj_D h 91 [.ref 251, .ref 35, .int (nI m), .int (nI Y)] (zc n, I, J) Q := by
  have h8 := hA.2.1
  have h7 := hA.2.2.1
  have hV := hA.2.2.2.1
  have hy := hV.1
  refine pj_ent (g := 6) hh (t := mt_91) rfl rfl (v91_0 (pj_D_le 6) I J _ _ ?_)
  refine s92 (by decide) hA hI hm (kI_i ?_)
  have ey : (if (999 - nI A.L.yr) < (if 30 < nI Y then 30 else nI Y) then (999 - nI A.L.yr) else (if 30 < nI Y then 30 else nI Y)) = nI (yk A Y) := by
    have e1 : (if 30 < nI Y then 30 else nI Y) = nI Y := if_neg (nI_nlt (a := 30) hY (by decide))
    have e2 : (999 : Int32) - nI A.L.yr = nI (999 - A.L.yr) := pk_sub hy
    rw [e1, e2]
    exact mn_i (by omega) (by omega)
  rw [hI.2.2.1.1, ey]
  have yb : yk A Y ≤ 30 ∧ A.L.yr + yk A Y ≤ 999 := by unfold yk; split <;> omega
  generalize yk A Y = y at q yb
  have h29 : bs (cho A.W A.L m) 9 < 2 ^ 31 := Nat.lt_of_lt_of_le (bs_lt _ _) (by decide)
  suffices outer : ∀ r ch I', r + ch = 9 → pj_fr qC I I' → I' 251 7 = nI y → I' 251 8 = nI (bs (lefY A m y) ch) → (∀ d, d < ch → cho A.W A.L m d = true → OT A m y d I') → pj_R (pj_D 6) ta mc_91 false Q 37 [some (.ref 251), some (.ref 35), some (.int (nI m)), none, some (.int (nI (bs (cho A.W A.L m) 9))), some (.int (nI ch)), none] [] (zc n) I' J 0 0 from
    outer 9 0 _ (by decide) (pj_fr_u (pj_fr_u pj_fr_rf (qC_t (by omega))) (qC_t (by omega))) rfl rfl (fun d hd => by omega)
  intro r
  induction r with
  | zero =>
    intro ch I' hc hf e7 e8 hO
    obtain rfl : ch = 9 := by omega
    exact v91_37 (pj_D_le 6) I' J _ _ _ (br_t (by decide) (q I' hf e7 e8 hO))
  | succ r ih =>
    intro ch I' hc hf e7 e8 hO
    have hch : ch < 9 := by omega
    have hI' := InvC_q hf hI
    obtain ⟨z1, z2⟩ := z261 ch hch
    have zl := z261L n ch hch
    have ib := bs_s (lefY A m y) ch
    have nx := fun I2 => ih (ch + 1) I2 (by omega)
    rw [ib] at nx
    refine v91_37 (pj_D_le 6) I' J _ _ _ ?_
    rw [nb_bit h29 (by omega), bs_bit, decide_eq_true hch, Bool.true_and, nI_clamp (n := ch) (by omega), z1, nI_1]
    refine br_f (nI_ge (b := 9) hch (by decide)) ?_
    cases e : cho A.W A.L m ch with
    | false =>
      have el : lefY A m y ch = false := by unfold lefY; rw [e, Bool.false_and]
      rw [el] at nx
      refine ⟨fun z => absurd rfl z, fun _ => nx I' hf e7 (by rw [e8]; simp only [Nat.or_zero]) (fun d hd hcd => ?_)⟩
      rcases Nat.lt_or_ge d ch with z | z
      · exact hO d z hcd
      · obtain rfl : d = ch := by omega
        rw [e] at hcd; cases hcd
    | true =>
      refine ⟨fun _ => s77 (by decide) (a := 252) (b := 35) (by decide) (fun I1 hcp => kV_i ⟨pk_in m 7 (by omega), ?_⟩), fun z => absurd z (by decide)⟩
      have f1 := pj_fr_tr hf (lcp_q (by decide) hcp)
      have fr1 : ∀ c j, c < 252 ∨ 259 < c → I1 c j = I' c j := fun c j hcj => hcp.2.2.2.2.2.2.2.2.2 c j (lS_i (by omega))
      have L1 := LC_cp h8 h7 hcp hI'.2.2.1
      rw [nI_clamp (n := m) (by omega)]
      show vp_in _ 9 ∧ _ ∧ pj_D 6 93 [.ref 251] (zc n, pj_u I1 257 m (nI ch - 1), J) (kI n fun v2 I2 J2 => (Nat.beq (zK (262 + ch)) 13 = true ∧ vp_in 0 (zL n (262 + ch)) ∧ pj_R (pj_D 6) ta mc_91 false Q 94 [some (.ref 251), some (.ref 35), some (.int (nI m)), none, some (.int (nI (bs (cho A.W A.L m) 9))), some (.int (nI ch)), some (.int 1)] [] (zc n) (pj_u I2 (262 + ch) 0 v2) J2 0 0))
      rw [z2, zl]
      have ew : nI ch - 1 = wo (chO ch) := by
        unfold chO
        by_cases z : ch = 0
        · rw [if_pos z, z]; decide
        · rw [if_neg z, su_1 (by omega)]; rfl
      have L2 : LC A.W 252 (scn A.W A.L m ch 0) (pj_u I1 257 m (nI ch - 1)) := by
        refine LC_m (m := m) (L := A.L) (L' := A.L.swr m (chO ch)) L1 rfl rfl rfl (fun k hk => ⟨rfl, rfl, upd1_n hk, rfl, rfl⟩) (pj_u_n (by decide)) (fun i j h1 h2 => pj_u_n (by omega)) (fun i j h1 h2 hj => pj_u_j hj) ⟨?_, ?_, ?_, ?_, ?_⟩
        · rw [pj_u_n (by decide)]; exact (L1.2.2 m hm).1
        · rw [pj_u_n (by decide)]; exact (L1.2.2 m hm).2.1
        · show pj_u I1 257 m (nI ch - 1) 257 m = wo (upd1 A.L.wor m (chO ch) m)
          rw [pj_u_e, upd1_e]; exact ew
        · rw [pj_u_n (by decide)]; exact (L1.2.2 m hm).2.2.2.1
        · rw [pj_u_n (by decide)]; exact (L1.2.2 m hm).2.2.2.2
      have f2 : pj_fr qC I (pj_u I1 257 m (nI ch - 1)) := pj_fr_u f1 (qC_t (by omega))
      have fr2 : ∀ c j, c < 252 ∨ 259 < c → pj_u I1 257 m (nI ch - 1) c j = I' c j := fun c j hcj => (pj_u_n (by omega)).trans (fr1 c j hcj)
      generalize pj_u I1 257 m (nI ch - 1) = I2 at L2 f2 fr2
      have V0 := scn_V (k := 0) hV hm ht e (by omega)
      refine ⟨pk_in ch 9 hch, rfl, s93 (by decide) (InvC_q f2 hI).2.1 h8 h7 L2 V0.1 (kI_i ⟨rfl, pk_in 0 31 (by decide), ?_⟩)⟩
      have inner : ∀ r' k I3, r' + k = y → pj_fr qC I I3 → I3 251 7 = nI y → I3 251 8 = nI (bs (lefY A m y) ch) → (∀ d, d < ch → cho A.W A.L m d = true → OT A m y d I3) → LC A.W 252 (scn A.W A.L m ch k) I3 → (∀ i, i ≤ k → I3 (262 + ch) i = nI (oF (wv (scn A.W A.L m ch i)) A.W.nm)) → pj_R (pj_D 6) ta mc_91 false Q 94 [some (.ref 251), some (.ref 35), some (.int (nI m)), none, some (.int (nI (bs (cho A.W A.L m) 9))), some (.int (nI ch)), some (.int (nI (k + 1)))] [] (zc n) I3 J 0 0 := by
        intro r'
        induction r' with
        | zero =>
          intro k I3 hk f3 g7 g8 gO gL gc
          obtain rfl : k = y := by omega
          refine v91_94 (pj_D_le 6) I3 J _ _ _ _ ?_
          rw [g7]
          refine br_t (nI_lt (by omega) (by omega)) (s94 (by decide) hA (InvC_q f3 hI) hm ht e g7 yb.1 yb.2 gc (kI_i ?_))
          have el : lefY A m k ch = allN (rokY A m k ch) A.rw.1 := by unfold lefY; rw [e, Bool.true_and]
          rw [el] at nx
          rw [g8, sh_1 (by omega), nb_or, nI_1]
          have gO' : ∀ I4, (∀ c j, (c < 251 ∨ 251 < c) ∨ j ≠ 8 → I4 c j = I3 c j) → ∀ d, d < ch + 1 → cho A.W A.L m d = true → OT A m k d I4 := fun I4 h4 d hd hcd => by
            rcases Nat.lt_or_ge d ch with z | z
            · exact fun i hi => (h4 _ _ (by omega)).trans (gO d z hcd i hi)
            · obtain rfl : d = ch := by omega
              exact fun i hi => (h4 _ _ (by omega)).trans (gc i hi)
          cases ea : allN (rokY A m k ch) A.rw.1 with
          | false =>
            rw [ea] at nx
            refine ⟨fun _ => nx I3 f3 g7 (by rw [g8]; simp only [Nat.or_zero]) (gO' I3 (fun _ _ _ => rfl)), fun z => absurd rfl z⟩
          | true =>
            rw [ea] at nx
            refine ⟨fun z => absurd z (by decide), fun _ => nx _ (pj_fr_u f3 (qC_t (by omega))) ((pj_u_j (by decide)).trans g7) pj_u_e (gO' _ (fun c j hcj => ?_))⟩
            rcases hcj with z | z
            · exact pj_u_n (by omega)
            · exact pj_u_j z
        | succ r' ihk =>
          intro k I3 hk f3 g7 g8 gO gL gc
          have V := scn_V (k := k) hV hm ht e (by omega)
          have V2 := scn_V (k := k + 1) hV hm ht e (by omega)
          refine v91_94 (pj_D_le 6) I3 J _ _ _ _ ?_
          rw [g7, nI_clamp (n := ch) (by omega), z1]
          refine br_f (nI_nlt (by omega) (by omega)) (s2 (by decide) (w := none) (a := 252) (by decide) (fun k z => by cases z) (InvC_q f3 hI).2.1 hA.1 gL V.1 (by omega) (fun I4 f4 L4 _ _ => kV_i ?_))
          have L4 : LC A.W 252 (scn A.W A.L m ch (k + 1)) I4 := L4
          have f4q := pj_fr_tr f3 (pj_fr_w f4 (fun c j hc => yS_q (by decide) hc))
          have o4 : ∀ c j, (c = 251 ∨ 260 ≤ c) → I4 c j = I3 c j := fun c j hc => f4 c j (yS_f (by omega) (by omega) (by omega) (by omega) (by omega))
          show vp_in _ 9 ∧ _ ∧ pj_D 6 93 [.ref 251] (zc n, I4, J) (kI n fun v2 I2 J2 => (Nat.beq (zK (262 + ch)) 13 = true ∧ vp_in _ (zL n (262 + ch)) ∧ pj_R (pj_D 6) ta mc_91 false Q 94 [some (.ref 251), some (.ref 35), some (.int (nI m)), none, some (.int (nI (bs (cho A.W A.L m) 9))), some (.int (nI ch)), some (.int (nI (k + 1) + 1))] [] (zc n) (pj_u I2 (262 + ch) (nI (k + 1)).toNatClampNeg v2) J2 0 0))
          rw [z2, zl, nI_clamp (n := k + 1) (by omega), nI_1]
          refine ⟨pk_in ch 9 hch, rfl, s93 (by decide) (InvC_q f4q hI).2.1 h8 h7 L4 V2.1 (kI_i ⟨rfl, pk_in (k + 1) 31 (by omega), ?_⟩)⟩
          refine ihk (k + 1) _ (by omega) (pj_fr_u f4q (qC_t (by omega))) ((pj_u_n (by omega)).trans ((o4 _ _ (by omega)).trans g7)) ((pj_u_n (by omega)).trans ((o4 _ _ (by omega)).trans g8)) (fun d hd hcd i hi => (pj_u_n (by omega)).trans ((o4 _ _ (by omega)).trans (gO d hd hcd i hi))) (LC_fr (fun c j h1 h2 => pj_u_n (by omega)) L4) (fun i hi => ?_)
          by_cases z : i = k + 1
          · rw [z, pj_u_e]
          · rw [pj_u_j z, o4 _ _ (by omega)]
            exact gc i (by omega)
      refine inner y 0 _ (by omega) (pj_fr_u f2 (qC_t (by omega))) ((pj_u_n (by omega)).trans ((fr2 _ _ (by omega)).trans e7)) ((pj_u_n (by omega)).trans ((fr2 _ _ (by omega)).trans e8)) (fun d hd hcd i hi => (pj_u_n (by omega)).trans ((fr2 _ _ (by omega)).trans (hO d hd hcd i hi))) (LC_fr (fun c j h1 h2 => pj_u_n (by omega)) L2) (fun i hi => ?_)
      obtain rfl : i = 0 := by omega
      rw [pj_u_e]
/-- Telling.latestRow -/
theorem s90 (hh : 1 ≤ h) (hA : AV A) (hI : InvC A I) (q : Q (some (.int (nI (latN A A.rw.1)))) (zc n, I, J)) : pj_D h 90 [.ref 251] (zc n, I, J) Q := by
  obtain ⟨r1, r2⟩ := hI.2.2.2.2.2.2.2.2.1
  have a16 := hA.2.2.2.2.2.2.2.2.2.2.1
  have arw := hA.2.2.2.2.2.2.2.2.2.2.2.1
  refine pj_ent (g := 0) hh (t := mt_90) rfl rfl (v90_0 (pj_D_le 0) I J ?_)
  suffices loop : ∀ r k, r + k = A.rw.1 → pj_R (pj_D 0) ta mc_90 false Q 4 [some (.ref 251), some (.int (nI (latN A k))), some (.int (nI k))] [] (zc n) I J 0 0 from loop A.rw.1 0 (by omega)
  intro r
  induction r with
  | zero =>
    intro k hk
    obtain rfl : k = A.rw.1 := by omega
    refine v90_4 (pj_D_le 0) I J _ _ ?_
    rw [r1]
    exact br_t (nI_le (Nat.le_refl _) (by omega)) q
  | succ r ih =>
    intro k hk
    have e3 : nI k * 3 = nI (3 * k) := (pk_mul k 3).trans (congrArg nI (by omega))
    have v1 := (arw k (by omega)).1
    have lb := (latN_b (fun i hi => (arw i hi).1) (k := k) (by omega)).1
    refine v90_4 (pj_D_le 0) I J _ _ ?_
    rw [r1, e3, nI_clamp (n := 3 * k) (by omega), (r2 k (by omega)).1, nI_1]
    refine br_f (nI_ge (by omega) (by omega)) ⟨pk_in (3 * k) 48 (by omega), ?_⟩
    have em : (if nI (latN A k) < nI (A.rw.2 k).1 then nI (A.rw.2 k).1 else nI (latN A k)) = nI (latN A (k + 1)) := by
      show _ = nI (if latN A k < (A.rw.2 k).1 then (A.rw.2 k).1 else latN A k)
      by_cases c : latN A k < (A.rw.2 k).1
      · rw [if_pos c, if_pos (nI_lt c (by omega))]
      · rw [if_neg c, if_neg (nI_nlt (by omega) (by omega))]
    rw [em]
    exact ih (k + 1) (by omega)
/-- PegCoats.had -/
theorem c140 (hh : 8 ≤ h) {p : Int32} (hA : AV A) (hI : InvC A I) (q : ∀ I', pj_fr qC I I' → Q (some (.int (hadV A p))) (zc n, I', J)) : pj_D h 140 [.ref 2, .int p] (zc n, I, J) Q := by
  have h7 := hA.2.2.1
  have hy := hA.2.2.2.1.1
  have arw := hA.2.2.2.2.2.2.2.2.2.2.2.1
  refine pj_ent (g := 7) hh (t := mt_140) rfl rfl (v140_0 (pj_D_le 7) I J _ ?_)
  unfold hadV at q
  refine s131 (by decide) hI.2.1.1 hI.2.2.1 (fun m hm e ht => kI_i ⟨fun _ => ?_, fun z => absurd z (by decide)⟩) (fun z => kI_i ⟨fun z => absurd rfl z, fun _ => ?_⟩)
  · subst e
    rw [tix_s h7 hm ht] at q
    simp only at q
    have lb := latN_b (fun i hi => (arw i hi).1) (Nat.le_refl _)
    refine s90 (by decide) hA hI (kI_i (s91 (Nat.le_refl 7) hA hI hm ht lb.1 (fun I1 f1 g7 g8 _ => kV_i ?_)))
    rw [g8, bs_cong (p' := lef A m) (fun ch _ => lefY_e (fun i hi => ?_))]
    · exact q I1 f1
    · have := lb.2 i hi
      have := (arw i hi).1
      unfold yk
      split <;> omega
  · rw [tix_n h7 z] at q
    exact q I pj_fr_rf
end PHe
