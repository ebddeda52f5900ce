/-! the class's reading: statements -/
def PCp (W : Wk) (C : List Tk) (I : Nat → Nat → Int32) : Prop := ∀ p, p < 3 → match W.pr p with
  | none => I 27 p = 0 ∧ I 28 p = 0
  | some ts => ∃ a b, C = a ++ (ts ++ b) ∧ I 27 p = nI a.length ∧ I 28 p = nI (a.length + ts.length)
def CWp (W : Wk) (C : List Tk) (I : Nat → Nat → Int32) : Prop := WC W 18 I ∧ PCp W C I ∧ I 18 15 = nI W.fire ∧ (∀ k, k < W.nc → I 19 k = nmC (W.cnm k)) ∧ ∀ k, k < W.nm → I 22 k = nmC (W.mnm k) ∧ I 23 k = nI (W.msz k) ∧ I 24 k = nI (W.mag k) ∧ I 25 k = wo (W.mco k)
def rsZ (s : Rs Sa) : Zt := bd s fun a => .ok (a.1, a.2.2)
def KB (ct : Nat) (I : Nat → Nat → Int32) : Prop := I 18 16 = nI ct ∧ ∃ a b, a ≤ 8 ∧ b ≤ 7 ∧ I 18 12 = nI a ∧ I 18 13 = nI b
def KS (m : Nat) (f : Nat → Nat) (ct : Nat) (s : Rs Sa) (I : Nat → Nat → Int32) : Prop := (∃ pg, RS m f pg 0 (rsZ s) I) ∧ KB ct I ∧ ∀ a, s = .ok a → CWp a.2.1 a.2.2 I
def sC : Nat → Nat → Bool := fun c _ => Nat.ble 18 c && Nat.ble c 32
theorem sC_f {c j : Nat} (h : sC c j = false) : c < 18 ∨ 32 < c := by
  unfold sC at h
  rw [Bool.and_eq_false_iff] at h
  rcases h with h | h <;> rw [← Bool.not_eq_true, Nat.ble_eq] at h <;> omega
theorem sC_t {c j : Nat} (h1 : 18 ≤ c) (h2 : c ≤ 32) : sC c j = true := by
  unfold sC
  rw [Bool.and_eq_true, Nat.ble_eq, Nat.ble_eq]
  exact ⟨h1, h2⟩
theorem eS_o {c j : Nat} (h : c < 18 ∨ 32 < c) : eS c j = false := eS_c ⟨by omega, by omega, by omega, by omega⟩
theorem sC_w {I I' : Nat → Nat → Int32} (h : pj_fr eS I I') : pj_fr sC I I' := fun a j e => h a j (eS_o (sC_f e))
theorem sC_u {I I' : Nat → Nat → Int32} {c j : Nat} {v : Int32} (h : pj_fr sC I I') (h1 : 18 ≤ c) (h2 : c ≤ 32) : pj_fr sC I (pj_u I' c j v) := pj_fr_u h (sC_t h1 h2)
theorem KB_fr {ct : Nat} {I I' : Nat → Nat → Int32} (hf : ∀ j, j = 12 ∨ j = 13 ∨ j = 16 → I' 18 j = I 18 j) (h : KB ct I) : KB ct I' := by
  obtain ⟨h1, a, b, h2, h3, h4, h5⟩ := h
  exact ⟨(hf 16 (by decide)).trans h1, a, b, h2, h3, (hf 12 (by decide)).trans h4, (hf 13 (by decide)).trans h5⟩
theorem KB_e {ct : Nat} {I I' : Nat → Nat → Int32} (hf : pj_fr eS I I') (h : KB ct I) : KB ct I' := KB_fr (fun j hj => hf 18 j (by rcases hj with rfl | rfl | rfl <;> rfl)) h
/-- a state of fault -/
theorem KS_er {m : Nat} {f : Nat → Nat} {ct pg : Nat} {e : Nat × Nat} {I : Nat → Nat → Int32} (hs : RS m f pg 0 (.error e) I) (hk : KB ct I) : KS m f ct (.error e) I := ⟨⟨pg, hs⟩, hk, fun a z => by cases z⟩
/-- a coat, a man, told anew -/
def coF (k : Nat) : Nat → Nat → Bool := fun c j => eS c j || ((c == 19 || c == 20 || c == 21) && j == k) || (c == 18 && j == 12)
def maF (k : Nat) : Nat → Nat → Bool := fun c j => eS c j || ((c == 22 || c == 23 || c == 24 || c == 25) && j == k) || (c == 18 && j == 13)
theorem coF_e {k : Nat} {I I' : Nat → Nat → Int32} (h : pj_fr eS I I') : pj_fr (coF k) I I' := fun a j e => h a j (by
  unfold coF at e
  rw [Bool.or_eq_false_iff, Bool.or_eq_false_iff] at e
  exact e.1.1)
theorem maF_e {k : Nat} {I I' : Nat → Nat → Int32} (h : pj_fr eS I I') : pj_fr (maF k) I I' := fun a j e => h a j (by
  unfold maF at e
  rw [Bool.or_eq_false_iff, Bool.or_eq_false_iff] at e
  exact e.1.1)
theorem coF_s {k : Nat} {I I' : Nat → Nat → Int32} (h : pj_fr (coF k) I I') : pj_fr sC I I' := fun a j e => h a j (by
  have e := sC_f e
  unfold coF
  rw [eS_o e, beq_eq_false_iff_ne.mpr (show a ≠ 19 by omega), beq_eq_false_iff_ne.mpr (show a ≠ 20 by omega), beq_eq_false_iff_ne.mpr (show a ≠ 21 by omega), beq_eq_false_iff_ne.mpr (show a ≠ 18 by omega)]
  rfl)
theorem maF_s {k : Nat} {I I' : Nat → Nat → Int32} (h : pj_fr (maF k) I I') : pj_fr sC I I' := fun a j e => h a j (by
  have e := sC_f e
  unfold maF
  rw [eS_o e, beq_eq_false_iff_ne.mpr (show a ≠ 22 by omega), beq_eq_false_iff_ne.mpr (show a ≠ 23 by omega), beq_eq_false_iff_ne.mpr (show a ≠ 24 by omega), beq_eq_false_iff_ne.mpr (show a ≠ 25 by omega), beq_eq_false_iff_ne.mpr (show a ≠ 18 by omega)]
  rfl)
theorem coF_n {k j c : Nat} (hc : c = 19 ∨ c = 20 ∨ c = 21) (h : j ≠ k) : coF k c j = false := by
  unfold coF
  rw [beq_eq_false_iff_ne.mpr h]
  rcases hc with rfl | rfl | rfl <;> rfl
theorem maF_n {k j c : Nat} (hc : c = 22 ∨ c = 23 ∨ c = 24 ∨ c = 25) (h : j ≠ k) : maF k c j = false := by
  unfold maF
  rw [beq_eq_false_iff_ne.mpr h]
  rcases hc with rfl | rfl | rfl | rfl <;> rfl
theorem coF_k {k c : Nat} (hc : c = 19 ∨ c = 20 ∨ c = 21) : coF k c k = true := by
  unfold coF
  rw [show (k == k) = true from beq_self_eq_true k]
  rcases hc with rfl | rfl | rfl <;> rfl
theorem maF_k {k c : Nat} (hc : c = 22 ∨ c = 23 ∨ c = 24 ∨ c = 25) : maF k c k = true := by
  unfold maF
  rw [show (k == k) = true from beq_self_eq_true k]
  rcases hc with rfl | rfl | rfl | rfl <;> rfl
theorem PCp_fr {W : Wk} {C : List Tk} {I I' : Nat → Nat → Int32} (hf : ∀ c j, c = 27 ∨ c = 28 → I' c j = I c j) (h : PCp W C I) : PCp W C I' := by
  intro p hp
  have := h p hp
  cases e : W.pr p with
  | none =>
    rw [e] at this
    exact ⟨(hf _ _ (Or.inl rfl)).trans this.1, (hf _ _ (Or.inr rfl)).trans this.2⟩
  | some ts =>
    rw [e] at this
    obtain ⟨a, b, h1, h2, h3⟩ := this
    exact ⟨a, b, h1, (hf _ _ (Or.inl rfl)).trans h2, (hf _ _ (Or.inr rfl)).trans h3⟩
theorem CWp_fr {W : Wk} {C : List Tk} {I I' : Nat → Nat → Int32} (hf : ∀ c j, (19 ≤ c ∧ c ≤ 25) ∨ c = 27 ∨ c = 28 ∨ (c = 18 ∧ (j = 12 ∨ j = 13 ∨ j = 15)) → I' c j = I c j) (h : CWp W C I) : CWp W C I' := by
  obtain ⟨⟨w1, w2, w3, w4, w5⟩, w6, w7, w8, w9⟩ := h
  exact ⟨⟨w1, w2, (hf _ _ (by omega)).trans w3, (hf _ _ (by omega)).trans w4, fun k hk => ⟨(hf _ _ (by omega)).trans (w5 k hk).1, (hf _ _ (by omega)).trans (w5 k hk).2⟩⟩, PCp_fr (fun c j hc => hf c j (by omega)) w6, (hf _ _ (by omega)).trans w7, fun k hk => (hf _ _ (by omega)).trans (w8 k hk), fun k hk => ⟨(hf _ _ (by omega)).trans (w9 k hk).1, (hf _ _ (by omega)).trans (w9 k hk).2.1, (hf _ _ (by omega)).trans (w9 k hk).2.2.1, (hf _ _ (by omega)).trans (w9 k hk).2.2.2⟩⟩
theorem CWp_e {W : Wk} {C : List Tk} {I I' : Nat → Nat → Int32} (hf : pj_fr eS I I') (h : CWp W C I) : CWp W C I' := CWp_fr (fun c j hc => hf c j (by
  rcases hc with hc | hc | hc | ⟨hc, hj⟩
  · exact eS_c ⟨by omega, by omega, by omega, by omega⟩
  · exact eS_c ⟨by omega, by omega, by omega, by omega⟩
  · exact eS_c ⟨by omega, by omega, by omega, by omega⟩
  · subst hc
    rcases hj with rfl | rfl | rfl <;> rfl)) h
theorem CWp_aC {W : Wk} {C : List Tk} {I I' : Nat → Nat → Int32} {l : List Nat} {s p : Nat} (h : CWp W C I) (hn : W.nc < 8) (F : pj_fr (coF W.nc) I I') (e0 : I' 18 12 = nI (W.nc + 1)) (e1 : I' 19 W.nc = nmC l) (e2 : I' 20 W.nc = nI s) (e3 : I' 21 W.nc = nI p) : CWp (W.aC l s p) C I' := by
  obtain ⟨⟨w1, w2, w3, w4, w5⟩, w6, w7, w8, w9⟩ := h
  refine ⟨⟨hn, w2, e0, (F 18 13 rfl).trans w4, fun k hk => ?_⟩, PCp_fr (fun c j hc => F c j (by rcases hc with rfl | rfl <;> rfl)) w6, (F 18 15 rfl).trans w7, fun k hk => ?_, fun k hk => ⟨(F 22 k rfl).trans (w9 k hk).1, (F 23 k rfl).trans (w9 k hk).2.1, (F 24 k rfl).trans (w9 k hk).2.2.1, (F 25 k rfl).trans (w9 k hk).2.2.2⟩⟩
  · have hk : k < W.nc + 1 := hk
    show I' 20 k = nI (upd1 W.csz W.nc s k) ∧ I' 21 k = nI (upd1 W.cpy W.nc p k)
    by_cases e : k = W.nc
    · subst e
      rw [upd1_e, upd1_e]
      exact ⟨e2, e3⟩
    · rw [upd1_n e, upd1_n e]
      exact ⟨(F 20 k (coF_n (by decide) e)).trans (w5 k (by omega)).1, (F 21 k (coF_n (by decide) e)).trans (w5 k (by omega)).2⟩
  · have hk : k < W.nc + 1 := hk
    show I' 19 k = nmC (upd1 W.cnm W.nc l k)
    by_cases e : k = W.nc
    · subst e
      rw [upd1_e]
      exact e1
    · rw [upd1_n e]
      exact (F 19 k (coF_n (by decide) e)).trans (w8 k (by omega))
theorem CWp_aM {W : Wk} {C : List Tk} {I I' : Nat → Nat → Int32} {l : List Nat} {s p : Nat} (h : CWp W C I) (hn : W.nm < 7) (F : pj_fr (maF W.nm) I I') (e0 : I' 18 13 = nI (W.nm + 1)) (e1 : I' 22 W.nm = nmC l) (e2 : I' 23 W.nm = nI s) (e3 : I' 24 W.nm = nI p) (e4 : I' 25 W.nm = -1) : CWp (W.aM l s p) C I' := by
  obtain ⟨⟨w1, w2, w3, w4, w5⟩, w6, w7, w8, w9⟩ := h
  refine ⟨⟨w1, hn, (F 18 12 rfl).trans w3, e0, fun k hk => ⟨(F 20 k rfl).trans (w5 k hk).1, (F 21 k rfl).trans (w5 k hk).2⟩⟩, PCp_fr (fun c j hc => F c j (by rcases hc with rfl | rfl <;> rfl)) w6, (F 18 15 rfl).trans w7, fun k hk => (F 19 k rfl).trans (w8 k hk), fun k hk => ?_⟩
  have hk : k < W.nm + 1 := hk
  show I' 22 k = nmC (upd1 W.mnm W.nm l k) ∧ I' 23 k = nI (upd1 W.msz W.nm s k) ∧ I' 24 k = nI (upd1 W.mag W.nm p k) ∧ I' 25 k = wo (upd1 W.mco W.nm none k)
  by_cases e : k = W.nm
  · subst e
    rw [upd1_e, upd1_e, upd1_e, upd1_e]
    exact ⟨e1, e2, e3, e4⟩
  · rw [upd1_n e, upd1_n e, upd1_n e, upd1_n e]
    have t := w9 k (by omega)
    exact ⟨(F 22 k (maF_n (by decide) e)).trans t.1, (F 23 k (maF_n (by decide) e)).trans t.2.1, (F 24 k (maF_n (by decide) e)).trans t.2.2.1, (F 25 k (maF_n (by decide) e)).trans t.2.2.2⟩
section PKs
variable {n h : Nat} {Q : pj_K} {I : Nat → Nat → Int32} {J : Nat → Nat → Int64} {m : Nat} {f : Nat → Nat} {ct : Nat}
/-- Reading.readCoat -/
theorem f40 (hh : 5 ≤ h) {a : Sa} (hk : KS m f ct (.ok a) I) (hV : SV a) (ho : own (sgn m f a.1) = some 0) (q : ∀ I', pj_fr sC I I' → KS m f ct (coS (sgn m f) a) I' → Q none (zc n, I', J)) : pj_D h 40 [.ref 31] (zc n, I, J) Q := by
  obtain ⟨⟨pg, hs⟩, kb, hc⟩ := hk
  have hs : RS m f pg 0 (.ok (a.1, a.2.2)) I := hs
  have hcw := hc a rfl
  obtain ⟨⟨h8, h7, h12, h13, wcs⟩, pc, w15, wcn, wmn⟩ := hcw
  refine pj_ent (g := 4) hh (t := mt_40) rfl rfl (v40_0 (pj_D_le 4) I J ?_)
  by_cases c8 : a.2.1.nc = 8
  · have u : coS (sgn m f) a = .error (6, (sgn m f a.1).st) := if_pos c8
    refine br_f (by rw [h12, c8]; decide) ?_
    rw [hs.2.2.1.2.1]
    refine f39 (a := 6) (by decide) (by decide) (by decide) hs (fun I1 f1 s1 => kV_i (q I1 (sC_w f1) ?_))
    rw [u]
    exact KS_er s1 (KB_e f1 kb)
  · refine br_t (by rw [h12]; exact nI_lt (b := 8) (by omega) (by decide)) ?_
    refine f65 (by decide) hs (fun b e => by cases e; exact Or.inl (own_k ho)) (fun I1 f1 s1 => kV_i ?_)
    have f1 := eS_w f1
    have s1 : RS m f pg 0 (.ok ((sgn m f a.1).nx, a.2.2)) I1 := s1
    refine f41 (by decide) (W := a.2.1) s1 ((f1 18 12 rfl).trans h12) h8 ((f1 18 13 rfl).trans h13) h7 (fun k hk => (f1 19 k rfl).trans (wcn k hk)) (fun k hk => (f1 22 k rfl).trans (wmn k hk).1) hV.1 (fun I2 v2 f2 s2 hv2 => kI_i ?_)
    rw [h12, nI_clamp (by omega)]
    have vi : vp_in (nI a.2.1.nc) 8 := vp_in_nI (by omega) (by decide)
    refine ⟨vi, f44 (w := 1) (by decide) (by decide) (RS_u rfl s2) (fun I3 f3 s3 => kV_i ?_)⟩
    refine f45 (x := 1) (y := 99) (by decide) (by decide) (by decide) s3 (fun I4 v4 f4 s4 hv4 => kI_i ⟨vi, ?_⟩)
    refine f44 (w := 2) (by decide) (by decide) (RS_u rfl s4) (fun I5 f5 s5 => kV_i ?_)
    refine f45 (x := 0) (y := 99) (by decide) (by decide) (by decide) s5 (fun I6 v6 f6 s6 hv6 => kI_i ⟨vi, ?_⟩)
    have F2 : pj_fr (coF a.2.1.nc) I (pj_u I2 19 a.2.1.nc v2) := pj_fr_u (pj_fr_tr (coF_e f1) (coF_e f2)) (coF_k (by decide))
    have F4 : pj_fr (coF a.2.1.nc) I (pj_u I4 20 a.2.1.nc v4) := pj_fr_u (pj_fr_tr (pj_fr_tr F2 (coF_e f3)) (coF_e f4)) (coF_k (by decide))
    have F6 : pj_fr (coF a.2.1.nc) I (pj_u (pj_u I6 21 a.2.1.nc v6) 18 12 (I6 18 12 + 1)) := pj_fr_u (pj_fr_u (pj_fr_tr (pj_fr_tr F4 (coF_e f5)) (coF_e f6)) (coF_k (by decide))) rfl
    have e12 : (pj_u (pj_u I6 21 a.2.1.nc v6) 18 12 (I6 18 12 + 1)) 18 12 = nI (a.2.1.nc + 1) := by
      rw [pj_u_e, f6 18 12 rfl, f5 18 12 rfl, pj_u_n (by decide), f4 18 12 rfl, f3 18 12 rfl, pj_u_n (by decide), f2 18 12 rfl, f1 18 12 rfl, h12, nI_1]
    have eq : rsZ (coS (sgn m f) a) = zb (zb (zb (zb (zb (.ok ((sgn m f a.1).nx, a.2.2)) fun p => bd (frs (sgn m f) a.2.1 p) fun l => .ok l.2) (wrd (sgn m f) 1)) fun p => bd (num (sgn m f) 1 99 p) fun v => .ok v.2) (wrd (sgn m f) 2)) fun p => bd (num (sgn m f) 0 99 p) fun v => .ok v.2 := by
      unfold coS rsZ
      rw [if_neg c8]
      simp only [zb, bd_bd, bd_o]
    refine q _ (coF_s F6) ⟨⟨pg, ?_⟩, ⟨(F6 18 16 rfl).trans kb.1, a.2.1.nc + 1, a.2.1.nm, by omega, h7, e12, (F6 18 13 rfl).trans h13⟩, fun b eb => ?_⟩
    · rw [eq]
      exact RS_u rfl (RS_u rfl s6)
    · have eb' := eb
      unfold coS at eb
      rw [if_neg c8] at eb
      obtain ⟨l, e1, eb⟩ := bd_ok eb
      obtain ⟨q1, e2, eb⟩ := bd_ok eb
      obtain ⟨v, e3, eb⟩ := bd_ok eb
      obtain ⟨q2, e4, eb⟩ := bd_ok eb
      obtain ⟨u, e5, eb⟩ := bd_ok eb
      cases eb
      have x2 := hv2 l e1
      have x4 := hv4 (q1, a.2.2) v (by simp only [zb, bd_o, e1, e2]) e3
      have x6 := hv6 (q2, a.2.2) u (by simp only [zb, bd_o, e1, e2, e3, e4]) e5
      refine CWp_aC (hc a rfl) (by omega) F6 e12 ?_ ?_ ?_
      · rw [pj_u_n (by decide), pj_u_n (by decide), f6 19 _ rfl, f5 19 _ rfl, pj_u_n (by decide), f4 19 _ rfl, f3 19 _ rfl, pj_u_e, x2]
      · rw [pj_u_n (by decide), pj_u_n (by decide), f6 20 _ rfl, f5 20 _ rfl, pj_u_e, x4]
      · rw [pj_u_n (by decide), pj_u_e, x6]
/-- Reading.readMan -/
theorem f46 (hh : 5 ≤ h) {a : Sa} (hk : KS m f ct (.ok a) I) (hV : SV a) (ho : own (sgn m f a.1) = some 3) (q : ∀ I', pj_fr sC I I' → KS m f ct (maS (sgn m f) a) I' → Q none (zc n, I', J)) : pj_D h 46 [.ref 31] (zc n, I, J) Q := by
  obtain ⟨⟨pg, hs⟩, kb, hc⟩ := hk
  have hs : RS m f pg 0 (.ok (a.1, a.2.2)) I := hs
  have hcw := hc a rfl
  obtain ⟨⟨h8, h7, h12, h13, wcs⟩, pc, w15, wcn, wmn⟩ := hcw
  refine pj_ent (g := 4) hh (t := mt_46) rfl rfl (v46_0 (pj_D_le 4) I J ?_)
  by_cases c8 : a.2.1.nm = 7
  · have u : maS (sgn m f) a = .error (6, (sgn m f a.1).st) := if_pos c8
    refine br_f (by rw [h13, c8]; decide) ?_
    rw [hs.2.2.1.2.1]
    refine f39 (a := 6) (by decide) (by decide) (by decide) hs (fun I1 f1 s1 => kV_i (q I1 (sC_w f1) ?_))
    rw [u]
    exact KS_er s1 (KB_e f1 kb)
  · refine br_t (by rw [h13]; exact nI_lt (b := 7) (by omega) (by decide)) ?_
    refine f65 (by decide) hs (fun b e => by cases e; exact Or.inl (own_k ho)) (fun I1 f1 s1 => kV_i ?_)
    have f1 := eS_w f1
    have s1 : RS m f pg 0 (.ok ((sgn m f a.1).nx, a.2.2)) I1 := s1
    refine f41 (by decide) (W := a.2.1) s1 ((f1 18 12 rfl).trans h12) h8 ((f1 18 13 rfl).trans h13) h7 (fun k hk => (f1 19 k rfl).trans (wcn k hk)) (fun k hk => (f1 22 k rfl).trans (wmn k hk).1) hV.1 (fun I2 v2 f2 s2 hv2 => kI_i ?_)
    rw [h13, nI_clamp (by omega)]
    have vi : vp_in (nI a.2.1.nm) 7 := vp_in_nI (by omega) (by decide)
    refine ⟨vi, f44 (w := 1) (by decide) (by decide) (RS_u rfl s2) (fun I3 f3 s3 => kV_i ?_)⟩
    refine f45 (x := 1) (y := 99) (by decide) (by decide) (by decide) s3 (fun I4 v4 f4 s4 hv4 => kI_i ⟨vi, ?_⟩)
    refine f44 (w := 4) (by decide) (by decide) (RS_u rfl s4) (fun I5 f5 s5 => kV_i ?_)
    refine f45 (x := 0) (y := 99) (by decide) (by decide) (by decide) s5 (fun I6 v6 f6 s6 hv6 => kI_i ⟨vi, vi, ?_⟩)
    have F2 : pj_fr (maF a.2.1.nm) I (pj_u I2 22 a.2.1.nm v2) := pj_fr_u (pj_fr_tr (maF_e f1) (maF_e f2)) (maF_k (by decide))
    have F4 : pj_fr (maF a.2.1.nm) I (pj_u I4 23 a.2.1.nm v4) := pj_fr_u (pj_fr_tr (pj_fr_tr F2 (maF_e f3)) (maF_e f4)) (maF_k (by decide))
    have F6 : pj_fr (maF a.2.1.nm) I (pj_u (pj_u (pj_u I6 24 a.2.1.nm v6) 25 a.2.1.nm (-1)) 18 13 (I6 18 13 + 1)) := pj_fr_u (pj_fr_u (pj_fr_u (pj_fr_tr (pj_fr_tr F4 (maF_e f5)) (maF_e f6)) (maF_k (by decide))) (maF_k (by decide))) rfl
    have e13 : (pj_u (pj_u (pj_u I6 24 a.2.1.nm v6) 25 a.2.1.nm (-1)) 18 13 (I6 18 13 + 1)) 18 13 = nI (a.2.1.nm + 1) := by
      rw [pj_u_e, f6 18 13 rfl, f5 18 13 rfl, pj_u_n (by decide), f4 18 13 rfl, f3 18 13 rfl, pj_u_n (by decide), f2 18 13 rfl, f1 18 13 rfl, h13, nI_1]
    have eq : rsZ (maS (sgn m f) a) = zb (zb (zb (zb (zb (.ok ((sgn m f a.1).nx, a.2.2)) fun p => bd (frs (sgn m f) a.2.1 p) fun l => .ok l.2) (wrd (sgn m f) 1)) fun p => bd (num (sgn m f) 1 99 p) fun v => .ok v.2) (wrd (sgn m f) 4)) fun p => bd (num (sgn m f) 0 99 p) fun v => .ok v.2 := by
      unfold maS rsZ
      rw [if_neg c8]
      simp only [zb, bd_bd, bd_o]
    refine q _ (maF_s F6) ⟨⟨pg, ?_⟩, ⟨(F6 18 16 rfl).trans kb.1, a.2.1.nc, a.2.1.nm + 1, h8, by omega, (F6 18 12 rfl).trans h12, e13⟩, fun b eb => ?_⟩
    · rw [eq]
      exact RS_u rfl (RS_u rfl (RS_u rfl s6))
    · unfold maS at eb
      rw [if_neg c8] at eb
      obtain ⟨l, e1, eb⟩ := bd_ok eb
      obtain ⟨q1, e2, eb⟩ := bd_ok eb
      obtain ⟨v, e3, eb⟩ := bd_ok eb
      obtain ⟨q2, e4, eb⟩ := bd_ok eb
      obtain ⟨u, e5, eb⟩ := bd_ok eb
      cases eb
      have x2 := hv2 l e1
      have x4 := hv4 (q1, a.2.2) v (by simp only [zb, bd_o, e1, e2]) e3
      have x6 := hv6 (q2, a.2.2) u (by simp only [zb, bd_o, e1, e2, e3, e4]) e5
      refine CWp_aM (hc a rfl) (by omega) F6 e13 ?_ ?_ ?_ ?_
      · rw [pj_u_n (by decide), pj_u_n (by decide), pj_u_n (by decide), f6 22 _ rfl, f5 22 _ rfl, pj_u_n (by decide), f4 22 _ rfl, f3 22 _ rfl, pj_u_e, x2]
      · rw [pj_u_n (by decide), pj_u_n (by decide), pj_u_n (by decide), f6 23 _ rfl, f5 23 _ rfl, pj_u_e, x4]
      · rw [pj_u_n (by decide), pj_u_n (by decide), pj_u_e, x6]
      · rw [pj_u_n (by decide), pj_u_e]
end PKs
