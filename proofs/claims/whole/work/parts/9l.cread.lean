/-! the class's reading: sums and tests -/
abbrev Zt : Type := Rs (Nat × List Tk)
def stp (s : Zt) (X : Pz) : Zt := bd s fun a => bd (X a.1) fun r => .ok (r.2, a.2 ++ r.1)
def sts (T : Nat → Sg) (c : Nat) (s : Zt) : Zt := bd s fun a => bd (exS T c a.1) fun q => .ok (q, a.2)
def ste (t : Tk) (s : Zt) : Zt := bd s fun a => .ok (a.1, a.2 ++ [t])
def adv (T : Nat → Sg) (s : Zt) : Zt := bd s fun a => .ok ((T a.1).nx, a.2)
def fah (T : Nat → Sg) (s : Zt) : Zt := bd s fun a => .error (1, (T a.1).pl)
def zl (j : Nat) (s : Zt) : Prop := ∀ a, s = .ok a → a.2.length + j ≤ a.1
def isE {α : Type} (s : Rs α) : Bool := match s with
  | .ok _ => false
  | .error _ => true
theorem erN {α : Type} {e : Nat × Nat} : ¬ bi (isE (Except.error e : Rs α)) = 0 := by show ¬ (1 : Int32) = 0; decide
theorem smN {α : Type} {x : α} : ¬ bi (some x).isSome = 0 := by show ¬ (1 : Int32) = 0; decide
theorem stp_zl {n pg d j : Nat} {b : Bool} {X : Pz} {s : Zt} (g : gdP n pg d b X) (h : zl j s) : zl j (stp s X) := by
  intro a e
  obtain ⟨a0, e1, e2⟩ := bd_ok e
  obtain ⟨⟨c, p'⟩, e3, e4⟩ := bd_ok e2
  cases e4
  have := g _ _ _ e3
  have := h _ e1
  simp only [List.length_append]
  omega
theorem sts_zl {n j c : Nat} {T : Nat → Sg} {s : Zt} (hT : TN n T) (h : zl j s) : zl (j + 1) (sts T c s) := by
  intro a e
  obtain ⟨a0, e1, e2⟩ := bd_ok e
  obtain ⟨q, e3, e4⟩ := bd_ok e2
  cases e4
  have := exS_n hT e3
  have := h _ e1
  show a0.2.length + (j + 1) ≤ q
  omega
theorem ste_zl {j : Nat} {t : Tk} {s : Zt} (h : zl (j + 1) s) : zl j (ste t s) := by
  intro a e
  obtain ⟨a0, e1, e2⟩ := bd_ok e
  cases e2
  have := h _ e1
  simp only [List.length_append, List.length_cons, List.length_nil]
  omega
theorem zl_m {j : Nat} {s : Zt} (h : zl (j + 1) s) : zl j s := fun a e => by have := h a e; omega
theorem zl_ok {j p : Nat} {C : List Tk} (h : C.length + j ≤ p) : zl j (.ok (p, C)) := fun a e => by cases e; exact h
theorem zl_er {j : Nat} {e : Nat × Nat} : zl j (.error e) := fun a e => by cases e
theorem sgn_kv {m : Nat} {f : Nat → Nat} {p : Nat} (h : ∀ k, k < m → f k < 256) : (sgn m f p).k ≤ 4 ∧ (sgn m f p).v < 10000 := by
  by_cases c2 : (sgn m f p).k = 2
  · have := sgn_2 c2
    omega
  · unfold sgn sgq at c2 ⊢
    generalize skb f (m - p) p = q at c2 ⊢
    split
    · exact ⟨Nat.le_of_ble_eq_true rfl, Nat.le_of_ble_eq_true rfl⟩
    · rename_i c0
      have := h q (by omega)
      rw [if_neg c0] at c2
      split
      · split
        · exact ⟨Nat.le_of_ble_eq_true rfl, Nat.le_of_ble_eq_true rfl⟩
        · split
          · exact ⟨Nat.le_of_ble_eq_true rfl, Nat.le_of_ble_eq_true rfl⟩
          · exact ⟨Nat.le_of_ble_eq_true rfl, Nat.le_of_ble_eq_true rfl⟩
      · rename_i c1
        rw [if_neg c1] at c2
        split
        · rename_i c3
          rw [if_pos c3] at c2
          split
          · exact ⟨Nat.le_of_ble_eq_true rfl, Nat.le_of_ble_eq_true rfl⟩
          · rename_i c4
            rw [if_neg c4] at c2
            split
            · exact ⟨Nat.le_of_ble_eq_true rfl, Nat.le_of_ble_eq_true rfl⟩
            · rename_i c5
              rw [if_neg c5] at c2
              exact absurd rfl c2
        · exact ⟨Nat.le_of_ble_eq_true rfl, show f q < 10000 by omega⟩
theorem ow_i {t : Sg} {k : Nat} (hk : k < 22) : wo (own t) = nI k ↔ own t = some k := wo_eq (fun c e => by have := own_b e; omega) (by omega)
def eS : Nat → Nat → Bool := fun c j => c == 32 || c == 26 || (c == 31 && (j == 2 || j == 3 || j == 4)) || (c == 18 && j == 14)
def RB (m : Nat) (f : Nat → Nat) (pg : Nat) (I : Nat → Nat → Int32) : Prop := TC m f I ∧ (∀ k, k < 22 → I 33 k = owC k) ∧ I 31 5 = nI pg ∧ ∃ cd, cd ≤ 1600 ∧ I 18 14 = nI cd ∧ (I 31 2 = 0 → I 31 3 = -1)
def RO (m : Nat) (f : Nat → Nat) (o : Nat) (a : Nat × List Tk) (I : Nat → Nat → Int32) : Prop := I 31 2 = 0 ∧ SCs (sgn m f a.1) I ∧ a.1 ≤ m ∧ I 31 4 = nI o ∧ I 18 14 = nI a.2.length ∧ a.2.length ≤ 1600 ∧ CC 26 0 a.2 I
def RE (e : Nat × Nat) (I : Nat → Nat → Int32) : Prop := I 31 2 = nI e.1 ∧ 1 ≤ e.1 ∧ e.1 ≤ 6 ∧ I 31 3 = nI e.2
def RS (m : Nat) (f : Nat → Nat) (pg o : Nat) (s : Zt) (I : Nat → Nat → Int32) : Prop := RB m f pg I ∧ match s with
  | .ok a => RO m f o a I
  | .error e => RE e I
theorem CC_app {c : Nat} {I : Nat → Nat → Int32} : ∀ {a b : List Tk} {k : Nat}, CC c k (a ++ b) I ↔ CC c k a I ∧ CC c (k + a.length) b I
  | [], b, k => ⟨fun h => ⟨trivial, h⟩, fun h => h.2⟩
  | t :: a, b, k => by
    show (_ ∧ CC c (k + 1) (a ++ b) I) ↔ (_ ∧ CC c (k + 1) a I) ∧ CC c (k + (a.length + 1)) b I
    rw [CC_app (a := a) (b := b) (k := k + 1), show k + 1 + a.length = k + (a.length + 1) by omega, and_assoc]
theorem eS_z : ∀ a j, eS a j = false → zS a j = false := fun a j h => by
  unfold eS at h
  unfold zS
  cases e : (a == 32) with
  | false => rfl
  | true => rw [e] at h; exact absurd h (by simp)
theorem eS_w {I I' : Nat → Nat → Int32} (h : pj_fr zS I I') : pj_fr eS I I' := pj_fr_w h eS_z
theorem eS_c {c j : Nat} (h : c ≠ 32 ∧ c ≠ 26 ∧ c ≠ 31 ∧ c ≠ 18) : eS c j = false := by
  unfold eS
  rw [beq_eq_false_iff_ne.mpr h.1, beq_eq_false_iff_ne.mpr h.2.1, beq_eq_false_iff_ne.mpr h.2.2.1, beq_eq_false_iff_ne.mpr h.2.2.2]
  rfl
section PRd
variable {n h : Nat} {Q : pj_K} {I : Nat → Nat → Int32} {J : Nat → Nat → Int64} {m : Nat} {f : Nat → Nat} {pg o : Nat}
theorem RB_z {I' : Nat → Nat → Int32} (hf : pj_fr zS I I') (h : RB m f pg I) : RB m f pg I' := ⟨TC_z hf h.1, fun k hk => (hf 33 k rfl).trans (h.2.1 k hk), (hf 31 5 rfl).trans h.2.2.1, by
  obtain ⟨cd, h1, h2, h3⟩ := h.2.2.2
  exact ⟨cd, h1, (hf 18 14 rfl).trans h2, fun z => (hf 31 3 rfl).trans (h3 ((hf 31 2 rfl).symm.trans z))⟩⟩
theorem RE_z {I' : Nat → Nat → Int32} {e : Nat × Nat} (hf : pj_fr zS I I') (h : RE e I) : RE e I' := ⟨(hf 31 2 rfl).trans h.1, h.2.1, h.2.2.1, (hf 31 3 rfl).trans h.2.2.2⟩
theorem RE_n {e : Nat × Nat} (h : RE e I) : ¬ I 31 2 = 0 := by
  rw [h.1]
  exact nI_ne0 h.2.1 (by have := h.2.2.1; omega)
theorem f37 (hh : 1 ≤ h) {s : Zt} (hs : RS m f pg o s I) (q : Q (some (.int (bi (isE s)))) (zc n, I, J)) : pj_D h 37 [.ref 31] (zc n, I, J) Q := by
  refine pj_ent (g := 0) hh (t := mt_37) rfl rfl (v37_0 (pj_D_le 0) I J ?_)
  cases s with
  | ok a => exact br_t hs.2.1 q
  | error e => exact br_f (RE_n hs.2) q
theorem f39e (hh : 1 ≤ h) {a b : Int32} {e : Nat × Nat} (hs : RS m f pg o (.error e) I) (q : Q none (zc n, I, J)) : pj_D h 39 [.ref 31, .int a, .int b] (zc n, I, J) Q :=
  pj_ent (g := 0) hh (t := mt_39) rfl rfl (v39_0 (pj_D_le 0) I J _ _ ⟨fun _ => q, fun z => absurd z (RE_n hs.2)⟩)
theorem f39 (hh : 1 ≤ h) {a b : Nat} {x : Nat × List Tk} (ha : 1 ≤ a) (hb : a ≤ 6) (hs : RS m f pg o (.ok x) I) (q : ∀ I', pj_fr eS I I' → RS m f pg o (.error (a, b)) I' → Q none (zc n, I', J)) : pj_D h 39 [.ref 31, .int (nI a), .int (nI b)] (zc n, I, J) Q := by
  refine pj_ent (g := 0) hh (t := mt_39) rfl rfl (v39_0 (pj_D_le 0) I J _ _ ⟨fun z => absurd hs.2.1 z, fun _ => q _ (pj_fr_u (pj_fr_u pj_fr_rf rfl) rfl) ⟨⟨?_, ?_, ?_, ?_⟩, ?_, ha, hb, pj_u_e⟩⟩)
  · exact TC_fr (fun c j hc => by rw [pj_u_n (by omega), pj_u_n (by omega)]) hs.1.1
  · intro k hk
    rw [pj_u_n (by decide), pj_u_n (by decide)]
    exact hs.1.2.1 k hk
  · rw [pj_u_j (by decide), pj_u_j (by decide)]
    exact hs.1.2.2.1
  · obtain ⟨cd, h1, h2, -⟩ := hs.1.2.2.2
    refine ⟨cd, h1, ?_, fun z => ?_⟩
    · rw [pj_u_n (by decide), pj_u_n (by decide)]
      exact h2
    · rw [pj_u_j (by decide), pj_u_e] at z
      exact absurd z (nI_ne0 ha (by omega))
  · rw [pj_u_j (by decide), pj_u_e]
theorem f43 (hh : 2 ≤ h) {s : Zt} (hs : RS m f pg o s I) (q : ∀ I', pj_fr eS I I' → RS m f pg o (fah (sgn m f) s) I' → Q none (zc n, I', J)) : pj_D h 43 [.ref 31] (zc n, I, J) Q := by
  refine pj_ent (g := 1) hh (t := mt_43) rfl rfl (v43_0 (pj_D_le 1) I J ?_)
  cases s with
  | error e => exact f39e (by decide) hs (kV_i (q I pj_fr_rf hs))
  | ok a =>
    rw [hs.2.2.1.2.2.1]
    exact f39 (a := 1) (by decide) (by decide) (by decide) hs (fun I' f1 s1 => kV_i (q I' f1 s1))
theorem f65 (hh : 2 ≤ h) {s : Zt} (hs : RS m f pg o s I) (hk : ∀ a, s = .ok a → (sgn m f a.1).k = 1 ∨ (sgn m f a.1).k = 2 ∨ (sgn m f a.1).k = 3) (q : ∀ I', pj_fr zS I I' → RS m f pg o (adv (sgn m f) s) I' → Q none (zc n, I', J)) : pj_D h 65 [.ref 32] (zc n, I, J) Q := by
  cases s with
  | error e => exact s65j hh hs.1.1 (fun I' f1 => q I' f1 ⟨RB_z f1 hs.1, RE_z f1 hs.2⟩)
  | ok a =>
    have k1 := hk a rfl
    obtain ⟨b1, b2, b3, b4, b5, b6, b7⟩ := hs.2
    have nx := sgn_nx (n := m) (f := f) (p := a.1) (by omega)
    have kv := sgn_kv (m := m) (f := f) (p := a.1) (fun k hk => (hs.1.1.2.2 k hk).2)
    refine s65 hh (p := (sgn m f a.1).nx) hs.1.1 hs.1.2.1 nx.2 (b2.2.2.2.1 k1) ?_ (fun I' f1 t1 => q I' f1 ⟨RB_z f1 hs.1, (f1 31 2 rfl).trans b1, t1, nx.2, (f1 31 4 rfl).trans b4, (f1 18 14 rfl).trans b5, b6, CC_fr (fun j _ _ => f1 26 j rfl) b7⟩)
    rw [sgn_j k1, b2.1]
    have e1 : (nI (sgn m f a.1).k = 1) ↔ (sgn m f a.1).k = 1 := nI_eq (b := 1) (by omega) (by decide)
    have e2 : (nI (sgn m f a.1).k = 2) ↔ (sgn m f a.1).k = 2 := nI_eq (b := 2) (by omega) (by decide)
    rw [e1, e2]
theorem f69 (hh : 1 ≤ h) {s : Zt} {c : Nat} (hc : c < 2 ^ 31) (hs : RS m f pg o s I) (q : ∀ v, (∀ a, s = .ok a → v = bi (isS (sgn m f a.1) c)) → Q (some (.int v)) (zc n, I, J)) : pj_D h 69 [.ref 32, .int (nI c)] (zc n, I, J) Q := by
  cases s with
  | error e => exact s69j hh (fun v => q v (fun a e => by cases e))
  | ok a =>
    have kv := sgn_kv (m := m) (f := f) (p := a.1) (fun k hk => (hs.1.1.2.2 k hk).2)
    exact s69 hh hs.2.2.1 kv.1 (by omega) hc (q _ (fun b e => by cases e; rfl))
theorem f55 (hh : 3 ≤ h) {s : Zt} {c : Nat} (hc : c < 2 ^ 31) (hs : RS m f pg o s I) (q : ∀ I', pj_fr eS I I' → RS m f pg o (sts (sgn m f) c s) I' → Q none (zc n, I', J)) : pj_D h 55 [.ref 31, .int (nI c)] (zc n, I, J) Q := by
  refine pj_ent (g := 2) hh (t := mt_55) rfl rfl (v55_0 (pj_D_le 2) I J _ (f37 (by decide) hs (kI_i ?_)))
  cases s with
  | error e => exact ⟨fun _ => f43 (by decide) hs (fun I' f1 s1 => kV_i (q I' f1 s1)), fun z => absurd z erN⟩
  | ok a =>
    refine ⟨fun z => absurd rfl z, fun _ => f69 (by decide) hc hs (fun v hv => kI_i ?_)⟩
    rw [hv a rfl]
    have u : sts (sgn m f) c (.ok a) = bd (exS (sgn m f) c a.1) fun q => .ok (q, a.2) := rfl
    unfold exS at u
    cases e : isS (sgn m f a.1) c with
    | false =>
      rw [e] at u
      exact ⟨fun z => absurd rfl z, fun _ => f43 (by decide) hs (fun I' f1 s1 => kV_i (q I' f1 (by rw [u]; exact s1)))⟩
    | true =>
      rw [e] at u
      refine ⟨fun _ => f65 (by decide) hs (fun b eb => ?_) (fun I' f1 s1 => kV_i (q I' (eS_w f1) (by rw [u]; exact s1))), fun z => absurd z (by decide)⟩
      cases eb
      exact Or.inr (Or.inr (isS_k e).1)
theorem f53 (hh : 1 ≤ h) {s : Zt} {v : Int32} {t : Tk} (hs : RS m f pg o s I) (hv : ∀ a, s = .ok a → v = ctk t ∧ a.2.length < 1600) (q : ∀ I', pj_fr eS I I' → RS m f pg o (ste t s) I' → Q none (zc n, I', J)) : pj_D h 53 [.ref 31, .int v] (zc n, I, J) Q := by
  refine pj_ent (g := 0) hh (t := mt_53) rfl rfl (v53_0 (pj_D_le 0) I J _ ?_)
  obtain ⟨cd, c1, c2, c3⟩ := hs.1.2.2.2
  rw [c2, nI_leI (by omega) (by omega)]
  have rb : ∀ x, cd < 1600 → RB m f pg (pj_u (pj_u I 26 cd x) 18 14 (nI (cd + 1))) := fun x hx => ⟨TC_fr (fun c j hc => by rw [pj_u_n (by omega), pj_u_n (by omega)]) hs.1.1, fun k hk => by rw [pj_u_n (by decide), pj_u_n (by decide)]; exact hs.1.2.1 k hk, by rw [pj_u_n (by decide), pj_u_n (by decide)]; exact hs.1.2.2.1, cd + 1, hx, pj_u_e, fun z => by rw [pj_u_n (by decide), pj_u_n (by decide)] at z ⊢; exact c3 z⟩
  refine ⟨fun z => ?_, fun z => ⟨pk_in cd 1600 (by omega), ?_⟩⟩
  · cases s with
    | error e => exact q I pj_fr_rf hs
    | ok a =>
      have := (nI_eq (by omega) (by have := hs.2.2.2.2.2.2.1; omega)).mp (c2.symm.trans hs.2.2.2.2.2.1)
      have := (hv a rfl).2
      omega
  · rw [nI_clamp (by omega), nI_1]
    refine q _ (pj_fr_u (pj_fr_u pj_fr_rf rfl) rfl) ⟨rb _ (by omega), ?_⟩
    cases s with
    | error e =>
      exact ⟨by rw [pj_u_n (by decide), pj_u_n (by decide)]; exact hs.2.1, hs.2.2.1, hs.2.2.2.1, by rw [pj_u_n (by decide), pj_u_n (by decide)]; exact hs.2.2.2.2⟩
    | ok a =>
      obtain ⟨b1, b2, b3, b4, b5, b6, b7⟩ := hs.2
      have e1 := (nI_eq (by omega) (by omega)).mp (c2.symm.trans b5)
      subst e1
      refine ⟨by rw [pj_u_n (by decide), pj_u_n (by decide)]; exact b1, SCs_fr (fun j => by rw [pj_u_n (by decide), pj_u_n (by decide)]) b2, b3, by rw [pj_u_n (by decide), pj_u_n (by decide)]; exact b4, pj_u_e.trans (congrArg nI (by simp)), ?_, ?_⟩
      · show (a.2 ++ [t]).length ≤ 1600
        simp only [List.length_append, List.length_cons, List.length_nil]
        omega
      · refine CC_app.mpr ⟨CC_fr (fun j _ hj => ?_) b7, ?_, trivial⟩
        · rw [pj_u_n (by decide), pj_u_j (by omega)]
        · rw [Nat.zero_add, pj_u_n (by decide), pj_u_e]
          exact (hv a rfl).1
theorem RS_o {s : Zt} {o' : Nat} {x : Int32} (hx : ∀ a, s = .ok a → x = nI o') (hs : RS m f pg o s I) : RS m f pg o' s (pj_u I 31 4 x) := by
  refine ⟨⟨TC_fr (fun c j hc => by rw [pj_u_n (by omega)]) hs.1.1, fun k hk => by rw [pj_u_n (by decide)]; exact hs.1.2.1 k hk, by rw [pj_u_j (by decide)]; exact hs.1.2.2.1, by
    obtain ⟨cd, h1, h2, h3⟩ := hs.1.2.2.2
    exact ⟨cd, h1, by rw [pj_u_n (by decide)]; exact h2, fun z => by rw [pj_u_j (by decide)] at z ⊢; exact h3 z⟩⟩, ?_⟩
  cases s with
  | error e => exact ⟨by rw [pj_u_j (by decide)]; exact hs.2.1, hs.2.2.1, hs.2.2.2.1, by rw [pj_u_j (by decide)]; exact hs.2.2.2.2⟩
  | ok a =>
    obtain ⟨b1, b2, b3, b4, b5, b6, b7⟩ := hs.2
    exact ⟨by rw [pj_u_j (by decide)]; exact b1, SCs_fr (fun j => by rw [pj_u_n (by decide)]) b2, b3, pj_u_e.trans (hx a rfl), by rw [pj_u_n (by decide)]; exact b5, b6, CC_fr (fun j _ _ => by rw [pj_u_n (by decide)]) b7⟩
theorem RS_d {s : Zt} (hs : RS m f pg (o + 1) s I) : RS m f pg o s (pj_u I 31 4 (I 31 4 - 1)) := RS_o (fun a e => by
  subst e
  rw [hs.2.2.2.2.1]
  exact nI_pred o) hs
theorem f52 (hh : 3 ≤ h) {k : Nat} {a : Nat × List Tk} (ho : k + o = 7) (hs : RS m f pg o (.ok a) I) (hk : (sgn m f a.1).k = 1 ∨ (sgn m f a.1).k = 2 ∨ (sgn m f a.1).k = 3) (q0 : k = 0 → ∀ I', pj_fr eS I I' → RS m f pg o (.error (5, (sgn m f a.1).st)) I' → Q (some (.int 0)) (zc n, I', J)) (q1 : ∀ k', k = k' + 1 → ∀ I', pj_fr eS I I' → RS m f pg (o + 1) (.ok ((sgn m f a.1).nx, a.2)) I' → Q (some (.int 1)) (zc n, I', J)) : pj_D h 52 [.ref 31] (zc n, I, J) Q := by
  refine pj_ent (g := 2) hh (t := mt_52) rfl rfl (v52_0 (pj_D_le 2) I J ?_)
  have h4 := hs.2.2.2.2.1
  cases k with
  | zero =>
    refine br_f ?_ ?_
    · rw [h4]
      exact nI_nlt (b := 7) (by omega) (by omega)
    · rw [hs.2.2.1.2.1]
      exact f39 (a := 5) (by decide) (by decide) (by decide) hs (fun I' f1 s1 => kV_i (q0 rfl I' f1 s1))
  | succ k =>
    refine br_t ?_ ?_
    · rw [h4]
      exact nI_lt (b := 7) (by omega) (by decide)
    · rw [h4, nI_1]
      have s1 : RS m f pg (o + 1) (.ok a) (pj_u I 31 4 (nI (o + 1))) := RS_o (fun _ _ => rfl) hs
      exact f65 (by decide) s1 (fun b e => by cases e; exact hk) (fun I' f1 s2 => kV_i (q1 k rfl I' (pj_fr_tr (pj_fr_u pj_fr_rf rfl) (eS_w f1)) s2))
theorem f62 (hh : 2 ≤ h) {a : Nat × List Tk} (hs : RS m f pg o (.ok a) I) (q : Q (some (.int (bi (opP (sgn m f a.1)).isSome))) (zc n, I, J)) : pj_D h 62 [.ref 31] (zc n, I, J) Q := by
  refine pj_ent (g := 1) hh (t := mt_62) rfl rfl (v62_0 (pj_D_le 1) I J ?_)
  unfold opP at q
  refine f69 (c := 42) (by decide) (by decide) hs (fun v hv => kI_i ?_)
  rw [hv a rfl]
  cases e1 : isS (sgn m f a.1) 42 with
  | true =>
    rw [if_pos e1] at q
    exact ⟨fun _ => q, fun z => absurd z (by decide)⟩
  | false =>
    rw [if_neg (by rw [e1]; decide)] at q
    refine ⟨fun z => absurd rfl z, fun _ => f69 (c := 47) (by decide) (by decide) hs (fun v hv => kI_i ?_)⟩
    rw [hv a rfl]
    cases e2 : isS (sgn m f a.1) 47 with
    | true =>
      rw [if_pos e2] at q
      exact ⟨fun _ => q, fun z => absurd z (by decide)⟩
    | false =>
      rw [if_neg (by rw [e2]; decide)] at q
      refine ⟨fun z => absurd rfl z, fun _ => f69 (c := 37) (by decide) (by decide) hs (fun v hv => kI_i ?_)⟩
      rw [hv a rfl]
      cases e3 : isS (sgn m f a.1) 37 with
      | true =>
        rw [if_pos e3] at q
        exact ⟨fun z => absurd z (by decide), fun _ => q⟩
      | false =>
        rw [if_neg (by rw [e3]; decide)] at q
        exact ⟨fun _ => q, fun z => absurd rfl z⟩
end PRd
