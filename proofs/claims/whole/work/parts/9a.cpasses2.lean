/-! passes: the class, the search -/
theorem wel_div {a b : Nat} (h : b < 8) : (8 * a + b) / 8 = a ∧ (8 * a + b) % 8 = b := by omega
/-- what a place of the search finds -/
def sqf (W : Wk) (m c k : Nat) (L : Ly) (t : Nat) : Option (List Nat) := match wel W L (pcd W.nm t / 8) (pcd W.nm t % 8) with
  | true => (seqF W m c k (L.chg (pcd W.nm t / 8) (pcd W.nm t % 8))).map (fun r => pcd W.nm t :: r)
  | false => none
theorem seqF_s {W : Wk} {m c k : Nat} {L : Ly} : seqF W m c (k + 1) L = firstT (sqf W m c k L) (off W.nm W.nm) 0 := rfl
theorem sqf_e {W : Wk} {m c k a b : Nat} {L : Ly} (h1 : a < b) (h2 : b < W.nm) (h7 : W.nm ≤ 7) : sqf W m c k L (off W.nm a + (b - a - 1)) = match wel W L a b with
    | true => (seqF W m c k (L.chg a b)).map (fun r => (8 * a + b) :: r)
    | false => none := by
  unfold sqf
  rw [pcd_e h1 h2, (wel_div (a := a) (b := b) (by omega)).1, (wel_div (a := a) (b := b) (by omega)).2]
theorem firstT_n {α : Type} {f : Nat → Option α} : ∀ {r t : Nat}, firstT f r t = none → ∀ j, t ≤ j → j < t + r → f j = none
  | 0, _, _, j, h1, h2 => by omega
  | r + 1, t, h, j, h1, h2 => by
    unfold firstT at h
    cases e : f t with
    | some x => rw [e] at h; cases h
    | none =>
      rw [e] at h
      rcases Nat.eq_or_lt_of_le h1 with z | z
      · rw [← z]; exact e
      · exact firstT_n h j z (by omega)
theorem off_lt {nm a b : Nat} (h1 : a < b) (h2 : b < nm) : off nm a + (b - a - 1) < off nm nm := by
  have := off_mono (nm := nm) (a := a + 1) (b := nm) (by omega)
  have e : off nm (a + 1) = off nm a + (nm - (a + 1)) := rfl
  omega
theorem sub_none {W : Wk} {m c k a b : Nat} {L : Ly} (h7 : W.nm ≤ 7) (h1 : a < b) (h2 : b < W.nm) (hw : wel W L a b = true) (hn : seqF W m c (k + 1) L = none) : seqF W m c k (L.chg a b) = none := by
  rw [seqF_s] at hn
  have := firstT_n hn (off W.nm a + (b - a - 1)) (Nat.zero_le _) (by have := off_lt h1 h2; omega)
  rw [sqf_e h1 h2 h7, hw] at this
  cases e : seqF W m c k (L.chg a b) with
  | none => rfl
  | some x => rw [e] at this; cases this
section PPt
variable {n : Nat} {J : Nat → Nat → Int64} {A : Ab}
/-- Passing.brings -/
def brg (L : Ly) (m c a b : Nat) : Bool := (decide (a = m) && decide (L.wor b = some c)) || (decide (b = m) && decide (L.wor a = some c))
theorem s22 {h : Nat} {Q : pj_K} {I : Nat → Nat → Int32} (hh : 1 ≤ h) {L : Ly} {m c a b : Nat} (h8 : A.W.nc ≤ 8) (h7 : A.W.nm ≤ 7) (hL : LC A.W 240 L I) (hV : LV A.W L) (hm : m < A.W.nm) (hc : c < A.W.nc) (ha : a < A.W.nm) (hb : b < A.W.nm) (hab : a ≠ b) (q : Q (some (.int (bi (brg L m c a b)))) (zc n, I, J)) : pj_D h 22 [.ref 239, .int (nI m), .int (nI c), .int (nI a), .int (nI b)] (zc n, I, J) Q := by
  refine pj_ent (g := 0) hh (t := mt_22) rfl rfl (v22_0 (pj_D_le 0) I J _ _ _ _ ?_)
  rw [nI_eq (by omega) (by omega), nI_eq (by omega) (by omega), nI_clamp (n := a) (by omega), nI_clamp (n := b) (by omega), (hL.2.2 a ha).2.2.1, (hL.2.2 b hb).2.2.1, wo_eq (fun d e => by have := LV_c hV ha e; omega) (by omega), wo_eq (fun d e => by have := LV_c hV hb e; omega) (by omega)]
  unfold brg at q
  have ia := pk_in (x := nI a) a 7 (by omega)
  have ib := pk_in (x := nI b) b 7 (by omega)
  by_cases c1 : a = m
  · have c2 : ¬ b = m := fun z => hab (by omega)
    rw [decide_eq_true c1, Bool.true_and, decide_eq_false c2, Bool.false_and, Bool.or_false] at q
    refine ⟨fun z => absurd c1 z, fun _ => ⟨ib, fun z => ?_, fun z => ⟨fun _ => ?_, fun y => absurd y c2⟩⟩⟩
    · rw [decide_eq_true z] at q; exact q
    · rw [decide_eq_false z] at q; exact q
  · rw [decide_eq_false c1, Bool.false_and, Bool.false_or] at q
    refine ⟨fun _ => ⟨fun c2 => ?_, fun c2 => ⟨ia, fun z => ?_, fun z => ?_⟩⟩, fun z => absurd z c1⟩
    · rw [decide_eq_false c2, Bool.false_and] at q; exact q
    · rw [decide_eq_true c2, Bool.true_and, decide_eq_false z] at q; exact q
    · rw [decide_eq_true c2, Bool.true_and, decide_eq_true z] at q; exact q
theorem brg_e {L : Ly} {m c a b : Nat} (hab : a ≠ b) (hn : L.wor m ≠ some c) : (L.chg a b).wor m = some c ↔ brg L m c a b = true := by
  unfold brg
  rw [chg_wor, Bool.or_eq_true, Bool.and_eq_true, Bool.and_eq_true, decide_eq_true_eq, decide_eq_true_eq, decide_eq_true_eq, decide_eq_true_eq]
  by_cases c1 : m = b
  · rw [if_pos c1]
    exact ⟨fun z => Or.inr ⟨c1.symm, z⟩, fun z => z.elim (fun y => absurd (y.1.trans c1) hab) (fun y => y.2)⟩
  · rw [if_neg c1]
    by_cases c2 : m = a
    · rw [if_pos c2]
      exact ⟨fun z => Or.inl ⟨c2.symm, z⟩, fun z => z.elim (fun y => y.2) (fun y => absurd y.1.symm c1)⟩
    · rw [if_neg c2]
      exact ⟨fun z => absurd z hn, fun z => z.elim (fun y => absurd y.1.symm c2) (fun y => absurd y.1.symm c1)⟩
def lnO (L : Ly) (o : Option Nat) : Nat := match o with | none => 0 | some c => L.lin c
theorem s26 {h : Nat} {Q : pj_K} {I : Nat → Nat → Int32} (hh : 1 ≤ h) {L : Ly} {o : Option Nat} (h8 : A.W.nc ≤ 8) (hL : LC A.W 240 L I) (ho : ∀ c, o = some c → c < A.W.nc) (q : Q (some (.int (nI (lnO L o)))) (zc n, I, J)) : pj_D h 26 [.ref 239, .int (wo o)] (zc n, I, J) Q := by
  refine pj_ent (g := 0) hh (t := mt_26) rfl rfl (v26_0 (pj_D_le 0) I J _ ?_)
  cases o with
  | none => exact ⟨fun z => absurd rfl z, fun _ => q⟩
  | some c =>
    have hc := ho c rfl
    have ew : (wo (some c)).toNatClampNeg = c := nI_clamp (n := c) (by omega)
    rw [ew, (hL.2.1 c hc).1]
    refine ⟨fun _ => ⟨pk_in c 8 (by omega), q⟩, fun z => ?_⟩
    have := (wo_none (o := some c) (fun c' e' => by cases e'; omega)).mp z
    cases this
/-- Passing.putBack -/
theorem s27 {h : Nat} {Q : pj_K} {I : Nat → Nat → Int32} (hh : 1 ≤ h) {a x : Nat} {o : Option Nat} (h8 : A.W.nc ≤ 8) (ha : a < 7) (ho : ∀ c, o = some c → c < A.W.nc) (q : ∀ I', (∀ d j, (d ≠ 245 ∨ j ≠ a) → (d ≠ 241 ∨ o ≠ some j) → I' d j = I d j) → I' 245 a = wo o → (∀ c, o = some c → I' 241 c = nI x) → Q none (zc n, I', J)) : pj_D h 27 [.ref 239, .int (nI a), .int (wo o), .int (nI x)] (zc n, I, J) Q := by
  refine pj_ent (g := 0) hh (t := mt_27) rfl rfl (v27_0 (pj_D_le 0) I J _ _ _ ⟨pk_in a 7 ha, ?_⟩)
  rw [nI_clamp (n := a) (by omega)]
  cases o with
  | none =>
    refine ⟨fun _ => q _ (fun d j h1 _ => ?_) pj_u_e (fun c e => by cases e), fun z => absurd rfl z⟩
    rcases h1 with z | z
    · exact pj_u_n z
    · exact pj_u_j z
  | some c =>
    have hc := ho c rfl
    have ew : (wo (some c)).toNatClampNeg = c := nI_clamp (n := c) (by omega)
    rw [ew]
    refine ⟨fun z => ?_, fun _ => ⟨pk_in c 8 (by omega), q _ (fun d j h1 h2 => ?_) ((pj_u_n (by decide)).trans pj_u_e) (fun c' e => by cases e; exact pj_u_e)⟩⟩
    · have := (wo_none (o := some c) (fun c' e' => by cases e'; omega)).mp z
      cases this
    · have t1 : pj_u (pj_u I 245 a (wo (some c))) 241 c (nI x) d j = pj_u I 245 a (wo (some c)) d j := by
        rcases h2 with z | z
        · exact pj_u_n z
        · exact pj_u_j (fun y => z (by rw [y]))
      rw [t1]
      rcases h1 with z | z
      · exact pj_u_n z
      · exact pj_u_j z
theorem sameM_c {L0 L : Ly} {a b : Nat} (h : sameM L0 L) : sameM L0 (L.chg a b) := h
theorem firstT_s {α : Type} {f : Nat → Option α} {r t : Nat} : firstT f (r + 1) t = match f t with | some x => some x | none => firstT f r (t + 1) := rfl
def r49 (g : Nat) (Q : pj_K) (n : Nat) (J : Nat → Nat → Int64) (m c d e f a b : Int32) (I : Nat → Nat → Int32) : Prop := pj_R (pj_D g) ta mc_21 true Q 49 [some (.ref 239), some (.int m), some (.int c), some (.int d), some (.int e), some (.int f), some (.int a), some (.int b)] [] (zc n) I J 0 0
def r31 (g : Nat) (Q : pj_K) (n : Nat) (J : Nat → Nat → Int64) (m c d e f a : Int32) (I : Nat → Nat → Int32) : Prop := pj_R (pj_D g) ta mc_21 true Q 31 [some (.ref 239), some (.int m), some (.int c), some (.int d), some (.int e), some (.int f), some (.int a), none] [] (zc n) I J 0 0
/-- the loops of Passing.reaches -/
theorem lp21 {g k : Nat} {Q : pj_K} {I : Nat → Nat → Int32} {L : Ly} {m c : Nat} {mi ci d e f : Int32} {P : (Nat → Nat → Int32) → Prop} (h7 : A.W.nm ≤ 7) (hP : ∀ I', P I' → I' 5 13 = nI A.W.nm) (hI : P I)
    (q0 : ∀ I', P I' → seqF A.W m c (k + 1) L = none → Q (some (.int 0)) (zc n, I', J))
    (step : ∀ a b I', a < b → b < A.W.nm → P I' → (sqf A.W m c k L (off A.W.nm a + (b - a - 1)) = none → ∀ I2, P I2 → r49 g Q n J mi ci d e f (nI a) (nI (b + 1)) I2) → (∀ x, sqf A.W m c k L (off A.W.nm a + (b - a - 1)) = some x → seqF A.W m c (k + 1) L = some x) → r49 g Q n J mi ci d e f (nI a) (nI b) I') : r31 g Q n J mi ci d e f 0 I := by
  rw [seqF_s] at q0
  rw [seqF_s] at step
  have inner : ∀ a, a < A.W.nm → (∀ I', P I' → firstT (sqf A.W m c k L) (off A.W.nm A.W.nm) 0 = firstT (sqf A.W m c k L) (off A.W.nm A.W.nm - off A.W.nm (a + 1)) (off A.W.nm (a + 1)) → r31 g Q n J mi ci d e f (nI (a + 1)) I') →
      ∀ s b I', s + b = A.W.nm → a < b → P I' → firstT (sqf A.W m c k L) (off A.W.nm A.W.nm) 0 = firstT (sqf A.W m c k L) (off A.W.nm A.W.nm - (off A.W.nm a + (b - a - 1))) (off A.W.nm a + (b - a - 1)) → r49 g Q n J mi ci d e f (nI a) (nI b) I' := by
    intro a ha nxa s
    induction s with
    | zero =>
      intro b I' hb hab hf ef
      obtain rfl : b = A.W.nm := by omega
      refine v21_49 (pj_D_le g) I' J _ _ _ _ _ _ _ ?_
      rw [hP I' hf, nI_1 a]
      refine br_t (nI_le (Nat.le_refl _) (by omega)) (nxa I' hf ?_)
      have e : off A.W.nm (a + 1) = off A.W.nm a + (A.W.nm - a - 1) := by show off A.W.nm a + (A.W.nm - (a + 1)) = _; omega
      rw [e]; exact ef
    | succ s ih =>
      intro b I' hb hab hf ef
      have hbm : b < A.W.nm := by omega
      have tl := off_lt hab hbm
      have nx := fun I2 => ih (b + 1) I2 (by omega) (by omega)
      rw [show b + 1 - a - 1 = b - a - 1 + 1 by omega, ← Nat.add_assoc] at nx
      have es : off A.W.nm A.W.nm - (off A.W.nm a + (b - a - 1)) = off A.W.nm A.W.nm - (off A.W.nm a + (b - a - 1) + 1) + 1 := by omega
      rw [es, firstT_s] at ef
      refine step a b I' hab hbm hf (fun e0 I2 h2 => nx I2 h2 ?_) (fun x e0 => ?_)
      · rw [e0] at ef; exact ef
      · rw [e0] at ef; exact ef
  suffices outer : ∀ r a I', r + a = A.W.nm → P I' → firstT (sqf A.W m c k L) (off A.W.nm A.W.nm) 0 = firstT (sqf A.W m c k L) (off A.W.nm A.W.nm - off A.W.nm a) (off A.W.nm a) → r31 g Q n J mi ci d e f (nI a) I' from outer A.W.nm 0 I (by omega) hI rfl
  intro r
  induction r with
  | zero =>
    intro a I' ha hf ef
    obtain rfl : a = A.W.nm := by omega
    rw [Nat.sub_self] at ef
    have ef : firstT (sqf A.W m c k L) (off A.W.nm A.W.nm) 0 = none := ef
    refine v21_31 (pj_D_le g) I' J _ _ _ _ _ _ ?_
    rw [hP I' hf]
    exact br_t (nI_le (Nat.le_refl _) (by omega)) (q0 I' hf ef)
  | succ r ih =>
    intro a I' ha hf ef
    refine v21_31 (pj_D_le g) I' J _ _ _ _ _ _ ?_
    rw [hP I' hf, nI_1 a]
    refine br_f (nI_ge (by omega) (by omega)) (inner a (by omega) (fun I2 f2 e2 => ih (a + 1) I2 (by omega) f2 e2) (A.W.nm - (a + 1)) (a + 1) I' (by omega) (by omega) hf ?_)
    rw [show a + 1 - a - 1 = 0 by omega, Nat.add_zero]
    exact ef
theorem KN_u {I : Nat → Nat → Int32} {W : Wk} {L0 : Ly} {c j : Nat} {v : Int32} (h1 : c ≠ 248) (h2 : c ≠ 249) (h : KN W L0 I) : KN W L0 (pj_u I c j v) := ⟨fun x hx => (pj_u_n (by omega)).trans (h.1 x hx), fun i x s a1 a2 a3 => by rw [pj_u_n (by omega)]; exact h.2 i x s a1 a2 a3⟩
theorem KN_fr {I I' : Nat → Nat → Int32} {W : Wk} {L0 : Ly} (hf : ∀ c j, c = 248 ∨ c = 249 → I' c j = I c j) (h : KN W L0 I) : KN W L0 I' := ⟨fun x hx => (hf _ _ (Or.inl rfl)).trans (h.1 x hx), fun i x s a1 a2 a3 => by rw [hf _ _ (Or.inr rfl)]; exact h.2 i x s a1 a2 a3⟩
/-- Passing.reaches, the last change -/
theorem s21a {m c : Nat} (hA : AV A) (hm : m < A.W.nm) (hc : c < A.W.nc) {h : Nat} {Q : pj_K} {I : Nat → Nat → Int32} {L : Ly} {d : Nat} (hh : 6 ≤ h) (hd : d + 1 ≤ 3) (hW : CW A.W 5 I) (hL : LC A.W 240 L I) (hM : sameM A.L L) (hV : LV A.W L) (hK : KN A.W A.L I) (hn : seqF A.W m c 0 L = none)
    (q0 : ∀ I', pj_fr pC I I' → LC A.W 240 L I' → KN A.W A.L I' → (∀ i, i < d → I' 250 i = I 250 i) → seqF A.W m c 1 L = none → Q (some (.int 0)) (zc n, I', J))
    (q1 : ∀ I' x, pj_fr pC I I' → LC A.W 240 L I' → KN A.W A.L I' → (∀ i, i < d → I' 250 i = I 250 i) → seqF A.W m c 1 L = some x → (∀ i, i < 1 → I' 250 (d + i) = nI (x.getD i 0)) → Q (some (.int 1)) (zc n, I', J)) :
    pj_D h 21 [.ref 239, .int (nI m), .int (nI c), .int (nI d), .int (nI (d + 1))] (zc n, I, J) Q := by
  have h7 := hA.2.2.1
  have h8 := hA.2.1
  refine pj_ent (g := 5) hh (t := mt_21) rfl rfl (v21_0 (pj_D_le 5) I J _ _ _ _ ?_)
  refine br_f (nI_ge (by omega) (by omega)) (br_t (nI_lt (b := 3) (by omega) (by decide)) ⟨fun z => ?_, fun _ => ?_⟩)
  · exact absurd ((su_1 (by omega)).trans (congrArg nI (by omega))).symm z
  have hn0 : L.wor m ≠ some c := fun z => by
    have : seqF A.W m c 0 L = some [] := by unfold seqF; rw [if_pos z]
    rw [this] at hn; cases hn
  refine lp21 (A := A) (k := 0) (L := L) (m := m) (c := c) (P := fun I' => pj_fr pC I I' ∧ LC A.W 240 L I' ∧ KN A.W A.L I' ∧ ∀ i, i < d → I' 250 i = I 250 i) h7 (fun I' h => (CW_p h.1 hW).1.2.2.2.1) ⟨pj_fr_rf, hL, hK, fun _ _ => rfl⟩ (fun I' h e => q0 I' h.1 h.2.1 h.2.2.1 h.2.2.2 e) ?_
  intro a b I' hab hbm h0 nx fin
  obtain ⟨hf, l1, k1, p1⟩ := h0
  have ha : a < A.W.nm := by omega
  rw [sqf_e hab hbm h7] at nx fin
  have s0 : seqF A.W m c 0 (L.chg a b) = if (L.chg a b).wor m = some c then some [] else none := rfl
  refine v21_49 (pj_D_le 5) I' J _ _ _ _ _ _ _ ?_
  rw [(CW_p hf hW).1.2.2.2.1, nI_1 b]
  refine br_f (nI_ge hbm (by omega)) ⟨fun z => absurd z (by decide), fun _ => s22 (by decide) h8 h7 l1 hV hm hc ha hbm (by omega) (kI_i ?_)⟩
  cases eb : brg L m c a b with
  | false =>
    have e0 : seqF A.W m c 0 (L.chg a b) = none := by
      rw [s0, if_neg (fun z => by rw [(brg_e (by omega) hn0).mp z] at eb; cases eb)]
    rw [e0] at nx
    have nx := nx (by cases wel A.W L a b <;> rfl)
    exact ⟨fun z => absurd rfl z, fun _ => nx I' ⟨hf, l1, k1, p1⟩⟩
  | true =>
    have e0 : seqF A.W m c 0 (L.chg a b) = some [] := by rw [s0, if_pos ((brg_e (by omega) hn0).mpr eb)]
    rw [e0] at fin
    refine ⟨fun _ => s23 (Nat.le_refl 5) hA (CW_p hf hW) l1 hM hV k1 ha hbm (by omega) (fun I2 f2 k2 => kI_i ?_), fun z => absurd z (by decide)⟩
    have f2p := pj_fr_tr hf (nC_p f2)
    have o2 : ∀ i, I2 250 i = I' 250 i := fun i => f2 _ _ rfl
    cases ew : wel A.W L a b with
    | false =>
      rw [ew] at nx
      exact ⟨fun z => absurd rfl z, fun _ => nx rfl I2 ⟨f2p, LC_n f2 l1, k2, fun i hi => (o2 i).trans (p1 i hi)⟩⟩
    | true =>
      rw [ew] at fin
      have ef := fin _ rfl
      refine ⟨fun _ => ⟨pk_in d 3 (by omega), fun _ => ?_, fun z => absurd z (by decide)⟩, fun z => absurd z (by decide)⟩
      have e8 : (8 : Int32) * nI a + nI b = nI (8 * a + b) := li_8 a b
      rw [e8, nI_clamp (n := d) (by omega)]
      refine q1 (pj_u I2 250 d (nI (8 * a + b))) _ (pj_fr_u f2p rfl) (LC_fr (fun x j h1 h2 => pj_u_n (by omega)) (LC_n f2 l1)) (KN_u (by decide) (by decide) k2) (fun i hi => (pj_u_j (by omega)).trans ((o2 i).trans (p1 i hi))) ef (fun i hi => ?_)
      obtain rfl : i = 0 := by omega
      exact pj_u_e
end PPt
