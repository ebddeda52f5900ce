/-! the reference's reading: words, numbers, names -/
def wrd (T : Nat → Sg) (w p : Nat) : Rs Nat := if own (T p) = some w then .ok (T p).nx else .error (1, (T p).pl)
def nam (T : Nat → Sg) (p : Nat) : Rs (List Nat) := if (T p).k = 1 ∧ own (T p) = none then .ok (T p).ls else .error (1, (T p).pl)
def num (T : Nat → Sg) (a b p : Nat) : Rs (Nat × Nat) := if (T p).k = 2 then (if a ≤ (T p).v ∧ (T p).v ≤ b then .ok ((T p).v, (T p).nx) else .error (4, (T p).st)) else .error (1, (T p).pl)
def lxs (T : Nat → Sg) (s : Rs Nat) : Rs Nat := bd s fun p => if (T p).k = 4 then .error (1, (T p).pl) else .ok p
theorem sgn_c {n : Nat} {f : Nat → Nat} {p : Nat} : ((sgn n f p).k ≠ 4 → (sgn n f p).pl = (sgn n f p).st) ∧ ((sgn n f p).k = 4 → (sgn n f p).v = 1 ∨ (sgn n f p).v = 2) := by
  unfold sgn sgq
  generalize skb f (n - p) p = q
  split
  · exact ⟨fun _ => rfl, fun z => absurd z (by show ¬ 0 = 4; decide)⟩
  · split
    · split
      · exact ⟨fun _ => rfl, fun _ => Or.inl rfl⟩
      · split
        · exact ⟨fun z => absurd rfl z, fun _ => Or.inl rfl⟩
        · exact ⟨fun _ => rfl, fun z => absurd z (by show ¬ 1 = 4; decide)⟩
    · split
      · split
        · exact ⟨fun _ => rfl, fun _ => Or.inr rfl⟩
        · split
          · exact ⟨fun z => absurd rfl z, fun _ => Or.inr rfl⟩
          · exact ⟨fun _ => rfl, fun z => absurd z (by show ¬ 2 = 4; decide)⟩
      · exact ⟨fun _ => rfl, fun z => absurd z (by show ¬ 3 = 4; decide)⟩
theorem sgn_z {n : Nat} {f : Nat → Nat} {p : Nat} (h : n ≤ p) : (sgn n f p).k = 0 := by
  unfold sgn sgq
  rw [show n - p = 0 by omega]
  show Sg.k (if n ≤ p then _ else _) = 0
  rw [if_pos h]
  rfl
def xM : Nat → Nat → Bool := fun c j => c == 276 && (j == 3 || j == 4 || j == 5 || j == 6 || j == 12 || j == 8 || j == 9)
theorem xM_z : ∀ a j, xM a j = false → zM a j = false := fun a j h => by
  unfold xM at h
  unfold zM
  cases e : (a == 276) with
  | false => rfl
  | true =>
    rw [e, Bool.true_and] at h
    rw [Bool.true_and]
    simp only [Bool.or_eq_false_iff] at h ⊢
    exact h.1.1
theorem xM_w {I I' : Nat → Nat → Int32} (h : pj_fr zM I I') : pj_fr xM I I' := pj_fr_w h xM_z
theorem xM_f {c j : Nat} (h : c ≠ 276) : xM c j = false := by unfold xM; rw [beq_eq_false_iff_ne.mpr h]; rfl
def MO (m : Nat) (f : Nat → Nat) (p : Nat) (I : Nat → Nat → Int32) (J : Nat → Nat → Int64) : Prop := I 276 8 = 0 ∧ SMt (sgn m f p) I J ∧ p ≤ m ∧ I 276 9 = -1
def ME (e : Nat × Nat) (I : Nat → Nat → Int32) : Prop := I 276 8 = nI e.1 ∧ 1 ≤ e.1 ∧ e.1 ≤ 6 ∧ I 276 9 = nI e.2
def MS (m : Nat) (f : Nat → Nat) (s : Rs Nat) (I : Nat → Nat → Int32) (J : Nat → Nat → Int64) : Prop := TZ m f I ∧ match s with
  | .ok p => MO m f p I J
  | .error e => ME e I
theorem ME_n {I : Nat → Nat → Int32} {e : Nat × Nat} (h : ME e I) : ¬ I 276 8 ≤ 0 ∧ ¬ I 276 8 = 0 := by
  rw [h.1]
  have := h.2.2.1
  exact ⟨nI_nle h.2.1 (by omega), nI_ne0 h.2.1 (by omega)⟩
theorem MS_fr {m : Nat} {f : Nat → Nat} {s : Rs Nat} {I I' : Nat → Nat → Int32} {J J' : Nat → Nat → Int64} (hf : ∀ j, (j = 2 ∨ j = 3 ∨ j = 4 ∨ j = 5 ∨ j = 6 ∨ j = 8 ∨ j = 9 ∨ j = 12) → I' 276 j = I 276 j) (ht : ∀ j, I' 277 j = I 277 j) (hj : J' 276 7 = J 276 7) (h : MS m f s I J) : MS m f s I' J' := by
  refine ⟨TZ_fr (fun c j hc => by
    rcases hc with ⟨rfl, rfl⟩ | rfl
    · exact hf 2 (by decide)
    · exact ht j) h.1, ?_⟩
  cases s with
  | ok p =>
    obtain ⟨b1, ⟨c1, c2, c3, c4, c5, c6⟩, b3⟩ := h.2
    exact ⟨(hf 8 (by decide)).trans b1, ⟨(hf 3 (by decide)).trans c1, (hf 4 (by decide)).trans c2, (hf 5 (by decide)).trans c3, (hf 12 (by decide)).trans c4, fun z => hj.trans (c5 z), fun z => (hf 6 (by decide)).trans (c6 z)⟩, b3.1, (hf 9 (by decide)).trans b3.2⟩
  | error e =>
    obtain ⟨b1, b2, b3, b4⟩ := h.2
    exact ⟨(hf 8 (by decide)).trans b1, b2, b3, (hf 9 (by decide)).trans b4⟩
/-- the own words, in the reference's signs -/
theorem own_M {t : Sg} {J : Nat → Nat → Int64} {i : Nat} {w : Int64} (hi : i < 22) (hw : nmM (oww i) = w) (hk : t.k = 1) (hn : nmV t.ls) (hJ : J 276 7 = nmM t.ls) : J 276 7 = w ↔ own t = some i := by
  rw [own_w hi, hJ, ← hw, nmM_inj hn (oww_v i hi)]
  exact ⟨fun z => ⟨hk, z⟩, fun z => z.2⟩
section PMr
variable {n h : Nat} {Q : pj_K} {I : Nat → Nat → Int32} {J : Nat → Nat → Int64} {m : Nat} {f : Nat → Nat}
theorem m169e (hh : 1 ≤ h) {a b : Int32} {e : Nat × Nat} (hs : MS m f (.error e) I J) (q : Q none (zc n, I, J)) : pj_D h 169 [.ref 276, .int a, .int b] (zc n, I, J) Q :=
  pj_ent (g := 0) hh (t := mt_169) rfl rfl (v169_0 (pj_D_le 0) I J _ _ ⟨fun z => absurd z (ME_n hs.2).1, fun _ => q⟩)
theorem m169 (hh : 1 ≤ h) {a b p : Nat} (ha : 1 ≤ a) (hb : a ≤ 6) (hs : MS m f (.ok p) I J) (q : ∀ I', pj_fr xM I I' → MS m f (.error (a, b)) I' J → Q none (zc n, I', J)) : pj_D h 169 [.ref 276, .int (nI a), .int (nI b)] (zc n, I, J) Q := by
  refine pj_ent (g := 0) hh (t := mt_169) rfl rfl (v169_0 (pj_D_le 0) I J _ _ (br_t (by rw [hs.2.1]; decide) (q _ (pj_fr_u (pj_fr_u pj_fr_rf rfl) rfl) ⟨TZ_fr (fun c j hc => ?_) hs.1, (pj_u_j (by decide)).trans pj_u_e, ha, hb, pj_u_e⟩)))
  rcases hc with ⟨rfl, rfl⟩ | rfl
  · rw [pj_u_j (by decide), pj_u_j (by decide)]
  · rw [pj_u_n (by decide), pj_u_n (by decide)]
theorem m168 (hh : 2 ≤ h) {s : Rs Nat} (hs : MS m f s I J) (q : ∀ I', pj_fr xM I I' → MS m f (lxs (sgn m f) s) I' J → Q none (zc n, I', J)) : pj_D h 168 [.ref 276] (zc n, I, J) Q := by
  refine pj_ent (g := 1) hh (t := mt_168) rfl rfl (v168_0 (pj_D_le 1) I J ?_)
  cases s with
  | error e => exact ⟨fun _ => q I pj_fr_rf hs, fun _ => m169e (by decide) hs (kV_i (q I pj_fr_rf hs))⟩
  | ok p =>
    have u : lxs (sgn m f) (.ok p) = if (sgn m f p).k = 4 then .error (1, (sgn m f p).pl) else .ok p := rfl
    rw [u] at q
    have h12 := hs.2.2.1.2.2.2.1
    by_cases c : (sgn m f p).k = 4
    · rw [if_pos c] at q h12
      rw [h12]
      refine br_f (fun z => ?_) (m169 (a := 1) (by decide) (by decide) (by decide) hs (fun I' f1 s1 => kV_i (q I' f1 s1)))
      have g := skb_ge (f := f) (r := m - p) (p := p)
      have hp := hs.2.2.2.1
      have hm := hs.1.1
      have pb : (sgn m f p).pl < 2 ^ 31 := by
        unfold sgn sgq
        generalize skb f (m - p) p = u at g
        split
        · show u < _; omega
        · split
          · split
            · show u < _; omega
            · split
              · show u + 6 < _; omega
              · show u < _; omega
          · split
            · split
              · show u < _; omega
              · split
                · show u + 4 < _; omega
                · show u < _; omega
            · show u < _; omega
      have a : ¬ nI (sgn m f p).pl < 0 := nI_pos pb
      rw [z] at a
      exact a (by decide)
    · rw [if_neg c] at q h12
      exact br_t h12 (q I pj_fr_rf hs)
theorem m164s (hh : 2 ≤ h) {p : Nat} (hs : MS m f (.ok p) I J) (hk : (sgn m f p).k ≠ 0) (q : ∀ I' J', pj_fr xM I I' → pj_fr jM J J' → MS m f (.ok (sgn m f p).nx) I' J' → Q none (zc n, I', J')) : pj_D h 164 [.ref 276] (zc n, I, J) Q := by
  have nx := sgn_nx hk
  exact m164 hh (p := (sgn m f p).nx) hs.1 nx.2 hs.2.2.1.2.2.1 (fun I' J' f1 f2 t1 => q I' J' (xM_w f1) f2 ⟨TZ_z f1 hs.1, (f1 276 8 rfl).trans hs.2.1, t1, nx.2, (f1 276 9 rfl).trans hs.2.2.2.2⟩)
theorem m170 (hh : 1 ≤ h) {p i : Nat} {w : Int64} (hs : MS m f (.ok p) I J) (h4 : (sgn m f p).k ≠ 4) (hi : i < 22) (hw : nmM (oww i) = w) (q : Q (some (.int (bi (decide (own (sgn m f p) = some i))))) (zc n, I, J)) : pj_D h 170 [.ref 276, .long w] (zc n, I, J) Q := by
  refine pj_ent (g := 0) hh (t := mt_170) rfl rfl (v170_0 (pj_D_le 0) I J _ ?_)
  have kv := sgn_kv (m := m) (f := f) (p := p) (fun k hk => (hs.1.2.2 k hk).2)
  have h3 := hs.2.2.1.1
  rw [if_neg h4] at h3
  have e1 : (I 276 3 = 1) ↔ (sgn m f p).k = 1 := by rw [h3]; exact nI_eq (b := 1) (by omega) (by decide)
  rw [e1, lg_cmp_eq]
  refine ⟨fun c => ?_, fun c => ?_⟩
  · rw [decide_eq_false (fun z => c (own_k z))] at q; exact q
  · rw [own_M hi hw c (sgn_1 c) (hs.2.2.1.2.2.2.2.1 c)]
    refine ⟨fun d => ?_, fun d => ?_⟩
    · rw [decide_eq_false d] at q; exact q
    · rw [decide_eq_true d] at q; exact q
theorem m190 (hh : 1 ≤ h) {p c : Nat} (hc : c < 2 ^ 31) (hs : MS m f (.ok p) I J) (q : Q (some (.int (bi (isS (sgn m f p) c)))) (zc n, I, J)) : pj_D h 190 [.ref 276, .int (nI c)] (zc n, I, J) Q := by
  refine pj_ent (g := 0) hh (t := mt_190) rfl rfl (v190_0 (pj_D_le 0) I J _ ?_)
  have kv := sgn_kv (m := m) (f := f) (p := p) (fun k hk => (hs.1.2.2 k hk).2)
  have h3 := hs.2.2.1.1
  have e1 : (I 276 3 = 3) ↔ (sgn m f p).k = 3 := by
    rw [h3]
    by_cases c4 : (sgn m f p).k = 4
    · rw [if_pos c4]
      have := sgn_c.2 c4
      have t : (nI (sgn m f p).v = nI 3) ↔ (sgn m f p).v = 3 := nI_eq (by omega) (by decide)
      exact ⟨fun z => by have := t.mp z; omega, fun z => by omega⟩
    · rw [if_neg c4]
      exact nI_eq (b := 3) (by omega) (by decide)
  rw [e1]
  unfold isS at q
  refine ⟨fun z => ?_, fun z => ?_⟩
  · rw [beq_eq_false_iff_ne.mpr z] at q; exact q
  · rw [hs.2.2.1.2.2.2.2.2 (Or.inr z), nI_eq (by omega) hc]
    refine ⟨fun y => ?_, fun y => ?_⟩
    · rw [beq_eq_false_iff_ne.mpr y, Bool.and_false] at q; exact q
    · rw [show ((sgn m f p).k == 3 && (sgn m f p).v == c) = true by rw [z, y]; simp] at q; exact q
theorem m190j (hh : 1 ≤ h) {c : Int32} (q : ∀ v, Q (some (.int v)) (zc n, I, J)) : pj_D h 190 [.ref 276, .int c] (zc n, I, J) Q :=
  pj_ent (g := 0) hh (t := mt_190) rfl rfl (v190_0 (pj_D_le 0) I J _ ⟨fun _ => q _, fun _ => ⟨fun _ => q _, fun _ => q _⟩⟩)
theorem xtr {I1 I2 I3 : Nat → Nat → Int32} (a : pj_fr xM I1 I2) (b : pj_fr xM I2 I3) : pj_fr xM I1 I3 := pj_fr_tr a b
/-- must(int) -/
theorem m198 (hh : 3 ≤ h) {s : Rs Nat} {c : Nat} (hc : c < 2 ^ 31) (hs : MS m f s I J) (q : ∀ I' J', pj_fr xM I I' → pj_fr jM J J' → MS m f (bd s (exS (sgn m f) c)) I' J' → Q none (zc n, I', J')) : pj_D h 198 [.ref 276, .int (nI c)] (zc n, I, J) Q := by
  refine pj_ent (g := 2) hh (t := mt_198) rfl rfl (v198_0 (pj_D_le 2) I J _ (m168 (by decide) hs (fun I1 f1 s1 => kV_i ?_)))
  have er : ∀ e, lxs (sgn m f) s = .error e → bd s (exS (sgn m f) c) = .error e → pj_D 2 190 [.ref 276, .int (nI c)] (zc n, I1, J) (kI n fun v2 I2 J2 => ((¬ v2 = 0 → ((¬ (I2 276 8) = 0 → Q none (zc n, I2, J2)) ∧ ((I2 276 8) = 0 → pj_D 2 164 [.ref 276] (zc n, I2, J2) (kV n fun I3 J3 => Q none (zc n, I3, J3))))) ∧ (v2 = 0 → pj_D 2 169 [.ref 276, .int 1, .int (I2 276 4)] (zc n, I2, J2) (kV n fun I4 J4 => ((¬ (I4 276 8) = 0 → Q none (zc n, I4, J4)) ∧ ((I4 276 8) = 0 → pj_D 2 164 [.ref 276] (zc n, I4, J4) (kV n fun I5 J5 => Q none (zc n, I5, J5)))))))) := fun e e1 e2 => by
    rw [e1] at s1
    rw [e2] at q
    have qq := q I1 J f1 pj_fr_rf s1
    have ne := (ME_n s1.2).2
    exact m190j (by decide) (fun v => kI_i ⟨fun _ => ⟨fun _ => qq, fun z => absurd z ne⟩, fun _ => m169e (by decide) s1 (kV_i ⟨fun _ => qq, fun z => absurd z ne⟩)⟩)
  cases s with
  | error e => exact er e rfl rfl
  | ok p =>
    by_cases c4 : (sgn m f p).k = 4
    · refine er (1, (sgn m f p).pl) (if_pos c4) ?_
      show exS (sgn m f) c p = _
      unfold exS
      rw [isS_nk (by omega)]
    · have u : lxs (sgn m f) (.ok p) = .ok p := if_neg c4
      rw [u] at s1
      have u2 : bd (.ok p) (exS (sgn m f) c) = exS (sgn m f) c p := rfl
      rw [u2] at q
      unfold exS at q
      refine m190 (by decide) hc s1 (kI_i ?_)
      cases ei : isS (sgn m f p) c with
      | true =>
        rw [ei] at q
        refine ⟨fun _ => ⟨fun z => absurd s1.2.1 z, fun _ => ?_⟩, fun z => absurd z (by decide)⟩
        exact m164s (by decide) s1 (by rw [(isS_k ei).1]; decide) (fun I2 J2 f2 g2 s2 => kV_i (q I2 J2 (xtr f1 f2) g2 s2))
      | false =>
        rw [ei] at q
        refine ⟨fun z => absurd rfl z, fun _ => ?_⟩
        rw [s1.2.2.1.2.1]
        refine m169 (a := 1) (by decide) (by decide) (by decide) s1 (fun I2 f2 s2 => kV_i ⟨fun _ => q I2 J (xtr f1 f2) pj_fr_rf ?_, fun z => absurd z (ME_n s2.2).2⟩)
        rw [sgn_c.1 c4]
        exact s2
/-- must(long) -/
theorem m177 (hh : 3 ≤ h) {s : Rs Nat} {i : Nat} {w : Int64} (hi : i < 22) (hw : nmM (oww i) = w) (hs : MS m f s I J) (q : ∀ I' J', pj_fr xM I I' → pj_fr jM J J' → MS m f (bd s (wrd (sgn m f) i)) I' J' → Q none (zc n, I', J')) : pj_D h 177 [.ref 276, .long w] (zc n, I, J) Q := by
  refine pj_ent (g := 2) hh (t := mt_177) rfl rfl (v177_0 (pj_D_le 2) I J _ (m168 (by decide) hs (fun I1 f1 s1 => kV_i ?_)))
  have er : ∀ e, lxs (sgn m f) s = .error e → bd s (wrd (sgn m f) i) = .error e → ¬ I1 276 8 ≤ 0 ∧ Q none (zc n, I1, J) := fun e e1 e2 => by
    rw [e1] at s1
    rw [e2] at q
    exact ⟨(ME_n s1.2).1, q I1 J f1 pj_fr_rf s1⟩
  cases s with
  | error e => exact br_f (er e rfl rfl).1 (er e rfl rfl).2
  | ok p =>
    have u2 : bd (.ok p) (wrd (sgn m f) i) = wrd (sgn m f) i p := rfl
    rw [u2] at q er
    unfold wrd at q er
    by_cases c4 : (sgn m f p).k = 4
    · have t := er (1, (sgn m f p).pl) (if_pos c4) (if_neg (fun z => by have := own_k z; omega))
      exact br_f t.1 t.2
    · have u : lxs (sgn m f) (.ok p) = .ok p := if_neg c4
      rw [u] at s1
      refine br_t (by rw [s1.2.1]; decide) (m170 (by decide) s1 c4 hi hw (kI_i ?_))
      by_cases co : own (sgn m f p) = some i
      · rw [if_pos co] at q
        rw [decide_eq_true co]
        refine ⟨fun _ => ⟨fun z => absurd s1.2.1 z, fun _ => ?_⟩, fun z => absurd z (by decide)⟩
        exact m164s (by decide) s1 (by rw [own_k co]; decide) (fun I2 J2 f2 g2 s2 => kV_i (q I2 J2 (xtr f1 f2) g2 s2))
      · rw [if_neg co] at q
        rw [decide_eq_false co]
        refine ⟨fun z => absurd rfl z, fun _ => ?_⟩
        rw [s1.2.2.1.2.1]
        refine m169 (a := 1) (by decide) (by decide) (by decide) s1 (fun I2 f2 s2 => kV_i ⟨fun _ => q I2 J (xtr f1 f2) pj_fr_rf ?_, fun z => absurd z (ME_n s2.2).2⟩)
        rw [sgn_c.1 c4]
        exact s2
/-- number -/
theorem m178 (hh : 3 ≤ h) {s : Rs Nat} {a b : Nat} (ha : a < 2 ^ 31) (hb : b < 2 ^ 31) (hs : MS m f s I J) (q : ∀ I' J' x, pj_fr xM I I' → pj_fr jM J J' → MS m f (bd s fun p => bd (num (sgn m f) a b p) fun v => .ok v.2) I' J' → (∀ p v, s = .ok p → num (sgn m f) a b p = .ok v → x = nI v.1) → Q (some (.int x)) (zc n, I', J')) : pj_D h 178 [.ref 276, .int (nI a), .int (nI b)] (zc n, I, J) Q := by
  refine pj_ent (g := 2) hh (t := mt_178) rfl rfl (v178_0 (pj_D_le 2) I J _ _ (m168 (by decide) hs (fun I1 f1 s1 => kV_i ?_)))
  cases s with
  | error e => exact br_f (ME_n s1.2).1 (q I1 J _ f1 pj_fr_rf s1 (fun p v z => by cases z))
  | ok p =>
    by_cases c4 : (sgn m f p).k = 4
    · have u : lxs (sgn m f) (.ok p) = .error (1, (sgn m f p).pl) := if_pos c4
      rw [u] at s1
      have un : num (sgn m f) a b p = .error (1, (sgn m f p).pl) := by unfold num; rw [if_neg (by omega)]
      refine br_f (ME_n s1.2).1 (q I1 J _ f1 pj_fr_rf ?_ (fun p' v z y => by cases z; rw [un] at y; cases y))
      show MS m f (bd (num (sgn m f) a b p) _) I1 J
      rw [un]
      exact s1
    · have u : lxs (sgn m f) (.ok p) = .ok p := if_neg c4
      rw [u] at s1
      have kv := sgn_kv (m := m) (f := f) (p := p) (fun k hk => (hs.1.2.2 k hk).2)
      have h3 := s1.2.2.1.1
      rw [if_neg c4] at h3
      have e2 : (I1 276 3 = 2) ↔ (sgn m f p).k = 2 := by rw [h3]; exact nI_eq (b := 2) (by omega) (by decide)
      refine br_t (by rw [s1.2.1]; decide) ?_
      rw [e2]
      refine ⟨fun c2 => ⟨fun z => absurd s1.2.1 z, fun _ => ?_⟩, fun c2 => ?_⟩
      · have h6 := s1.2.2.1.2.2.2.2.2 (Or.inl c2)
        rw [h6]
        refine s179 (by decide) (kI_i ?_)
        have er : (nI a ≤ nI (sgn m f p).v ∧ nI (sgn m f p).v ≤ nI b) ↔ (a ≤ (sgn m f p).v ∧ (sgn m f p).v ≤ b) := by rw [nI_leI ha (by omega), nI_leI (by omega) hb]
        by_cases cr : a ≤ (sgn m f p).v ∧ (sgn m f p).v ≤ b
        · have un : num (sgn m f) a b p = .ok ((sgn m f p).v, (sgn m f p).nx) := by unfold num; rw [if_pos c2, if_pos cr]
          rw [if_pos (er.mpr cr)]
          refine ⟨fun _ => ⟨fun z => absurd s1.2.1 z, fun _ => ?_⟩, fun z => absurd z (by decide)⟩
          refine m164s (by decide) s1 (by omega) (fun I2 J2 f2 g2 s2 => kV_i (q I2 J2 _ (xtr f1 f2) g2 ?_ (fun p' v z y => ?_)))
          · show MS m f (bd (num (sgn m f) a b p) _) I2 J2
            rw [un]
            exact s2
          · cases z
            rw [un] at y
            cases y
            exact h6
        · have un : num (sgn m f) a b p = .error (4, (sgn m f p).st) := by unfold num; rw [if_pos c2, if_neg cr]
          rw [if_neg (fun z => cr (er.mp z))]
          refine ⟨fun z => absurd rfl z, fun _ => ?_⟩
          rw [s1.2.2.1.2.1]
          refine m169 (a := 4) (by decide) (by decide) (by decide) s1 (fun I2 f2 s2 => kV_i ⟨fun _ => q I2 J _ (xtr f1 f2) pj_fr_rf ?_ (fun p' v z y => by cases z; rw [un] at y; cases y), fun z => absurd z (ME_n s2.2).2⟩)
          show MS m f (bd (num (sgn m f) a b p) _) I2 J
          rw [un]
          exact s2
      · have un : num (sgn m f) a b p = .error (1, (sgn m f p).pl) := by unfold num; rw [if_neg c2]
        rw [s1.2.2.1.2.1]
        refine m169 (a := 1) (by decide) (by decide) (by decide) s1 (fun I2 f2 s2 => kV_i ⟨fun _ => ⟨fun _ => q I2 J _ (xtr f1 f2) pj_fr_rf ?_ (fun p' v z y => by cases z; rw [un] at y; cases y), fun z => absurd z (ME_n s2.2).2⟩, fun z => absurd z (ME_n s2.2).2⟩)
        show MS m f (bd (num (sgn m f) a b p) _) I2 J
        rw [un, sgn_c.1 c4]
        exact s2
end PMr
