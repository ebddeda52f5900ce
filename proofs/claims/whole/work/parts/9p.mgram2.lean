/-! sums and tests by steps: each level -/
theorem rnk_1 (x : Nat) : 1 ≤ rnk x := by
  unfold rnk
  repeat' split
  all_goals omega
section PSm
variable {T : Nat → Sg} {n pg : Nat} {G : Cf → Prop} {E : Nat × Nat → Prop} {DN : List Tk → Nat → Prop}
theorem gS {kd ph : Nat} {bg : Bool} {pa : Nat} {pd os : List Nat} {fs : List Fr} {C : List Tk} {o p x : Nat} (hx : opS (T p) = some x) (hp : ph < 2) (hr : ∀ y, y ∈ pd → 5 ≤ rnk y) (hs : sto 5 os) (h : G ((kd, ph, bg, pa, x :: os) :: fs, C ++ pd.map tkO, o, (T p).nx, false)) : stG T G E DN kd ph bg pa (pd ++ os) fs C (o + nts pd) p := by
  have k3 := (opS_r hx).2.2.2
  unfold stG
  rw [if_neg (by omega), if_pos ⟨hp, by rw [hx]; rfl⟩, hx, flu_a hs hr]
  exact h
theorem gP {kd ph : Nat} {bg : Bool} {pa : Nat} {pd os : List Nat} {fs : List Fr} {C : List Tk} {o p x : Nat} (hx : opP (T p) = some x) (hp : ph < 2) (hr : ∀ y, y ∈ pd → 6 ≤ rnk y) (hs : sto 6 os) (h : G ((kd, ph, bg, pa, x :: os) :: fs, C ++ pd.map tkO, o, (T p).nx, false)) : stG T G E DN kd ph bg pa (pd ++ os) fs C (o + nts pd) p := by
  have k3 := (opP_r hx).2.2.2
  unfold stG
  rw [if_neg (by omega), if_neg (by rw [opP_S hx]; exact fun z => absurd z.2 (by decide)), if_pos ⟨hp, by rw [hx]; rfl⟩, hx, flu_a hs hr]
  exact h
theorem gC {kd : Nat} {bg : Bool} {pa : Nat} {pd os : List Nat} {fs : List Fr} {C : List Tk} {o p x : Nat} (hx : opC (T p) = some x) (ht : isT kd = true) (hr : ∀ y, y ∈ pd → 5 ≤ rnk y) (hs : sto 5 os) (h : G ((kd, 1, bg, pa, x :: os) :: fs, C ++ pd.map tkO, o, (T p).nx, false)) : stG T G E DN kd 0 bg pa (pd ++ os) fs C (o + nts pd) p := by
  have k3 := (opC_r hx).2.2.2
  unfold stG
  rw [if_neg (by omega), if_neg (by rw [(opC_SP hx).1]; exact fun z => absurd z.2 (by decide)), if_neg (by rw [(opC_SP hx).2]; exact fun z => absurd z.2 (by decide)), if_pos ⟨ht, rfl, by rw [hx]; rfl⟩, hx, flu_a hs hr]
  exact h
theorem gA {kd ph : Nat} {bg : Bool} {pa : Nat} {pd os : List Nat} {fs : List Fr} {C : List Tk} {o p : Nat} (hx : own (T p) = some 17) (ht : isT kd = true) (hp : ph ≠ 0) (hr : ∀ y, y ∈ pd → 2 ≤ rnk y) (hs : sto 2 os) (h : G ((kd, 0, true, pa, 41 :: os) :: fs, C ++ pd.map tkO, o, (T p).nx, false)) : stG T G E DN kd ph bg pa (pd ++ os) fs C (o + nts pd) p := by
  have k1 := own_k hx
  have k3 := op_nk (t := T p) (by omega)
  unfold stG
  rw [if_neg (by omega), if_neg (by rw [k3.1]; exact fun z => absurd z.2 (by decide)), if_neg (by rw [k3.2.1]; exact fun z => absurd z.2 (by decide)), if_neg (fun z => hp z.2.1), if_pos ⟨ht, hx⟩, if_neg hp, flu_a hs hr]
  exact h
theorem gO {kd ph : Nat} {bg : Bool} {pa : Nat} {pd os : List Nat} {fs : List Fr} {C : List Tk} {o p : Nat} (hx : own (T p) = some 16) (ht : isT kd = true) (hp : ph ≠ 0) (hr : ∀ y, y ∈ pd → 1 ≤ rnk y) (hs : sto 1 os) (h : G ((kd, 0, true, pa, 42 :: os) :: fs, C ++ pd.map tkO, o, (T p).nx, false)) : stG T G E DN kd ph bg pa (pd ++ os) fs C (o + nts pd) p := by
  have k1 := own_k hx
  have k3 := op_nk (t := T p) (by omega)
  unfold stG
  rw [if_neg (by omega), if_neg (by rw [k3.1]; exact fun z => absurd z.2 (by decide)), if_neg (by rw [k3.2.1]; exact fun z => absurd z.2 (by decide)), if_neg (fun z => hp z.2.1), if_neg (by rw [hx]; exact fun z => absurd z.2 (by decide)), if_pos ⟨ht, hx⟩, if_neg hp, flu_a hs hr]
  exact h
theorem gE {kd ph : Nat} {bg : Bool} {pa : Nat} {pd : List Nat} {fs : List Fr} {C : List Tk} {o p : Nat} (h4 : (T p).k = 4 → E (1, (T p).pl)) (h1 : ph < 2 → opS (T p) = none ∧ opP (T p) = none) (h2 : isT kd = true → ph ≠ 0 ∧ own (T p) ≠ some 17 ∧ own (T p) ≠ some 16) (h : (T p).k ≠ 4 → stE T G E DN kd ph bg pa fs (C ++ pd.map tkO) [] o p) : stG T G E DN kd ph bg pa (pd ++ []) fs C (o + nts pd) p := by
  unfold stG
  by_cases c : (T p).k = 4
  · rw [if_pos c]
    exact h4 c
  · rw [if_neg c, if_neg (fun z => by rw [(h1 z.1).1] at z; exact absurd z.2 (by decide)), if_neg (fun z => by rw [(h1 z.1).2] at z; exact absurd z.2 (by decide)), if_neg (fun z => (h2 z.1).1 z.2.1), if_neg (fun z => (h2 z.1).2.1 z.2), if_neg (fun z => (h2 z.1).2.2 z.2), if_neg (fun z => (h2 z.1).1 z.2), flu_a sto_0 (fun y _ => rnk_1 y)]
    exact h c
theorem chS {op : Sg → Option Nat} {P : Pz} {r o N L : Nat} (cG : ClG T G E DN) (hop : ∀ t x, op t = some x → rnk x = r ∧ x ≠ 43 ∧ tkO x = (2, x) ∧ t.k = 3)
    (hg : ∀ (kd ph : Nat) (bg : Bool) (pa : Nat) (pd os : List Nat) (fs : List Fr) (C : List Tk) (o p x : Nat), op (T p) = some x → ph < 2 → (∀ y, y ∈ pd → r ≤ rnk y) → sto r os → G ((kd, ph, bg, pa, x :: os) :: fs, C ++ pd.map tkO, o, (T p).nx, false) → stG T G E DN kd ph bg pa (pd ++ os) fs C (o + nts pd) p)
    (hP : SpS T G E P (r + 1) o N L) : SpS T G E (chn T op P) r o (N + 1) L := by
  intro kd ph bg pa os fs C p hph hf hst hb hl he hk
  have loop : ∀ (rr : Nat) (c : List Tk) (px : Nat) (C' : List Tk) (pd : List Nat), C' ++ pd.map tkO = C ++ c → (∀ x, x ∈ pd → r ≤ rnk x) → pd.length ≤ N + 1 → (∀ e, lop T op P rr c px = .error e → E e) → (∀ c' p', lop T op P rr c px = .ok (c', p') → ∀ C' pd, C' ++ pd.map tkO = C ++ c' → (∀ x, x ∈ pd → r ≤ rnk x) → pd.length ≤ N + 1 → G ((kd, ph, false, pa, pd ++ os) :: fs, C', o + nts pd, p', true)) → G ((kd, ph, false, pa, pd ++ os) :: fs, C', o + nts pd, px, true) := by
    intro rr
    induction rr with
    | zero =>
      intro c px C' pd h1 h2 h3 he hk
      exact hk c px rfl C' pd h1 h2 h3
    | succ rr ih =>
      intro c px C' pd h1 h2 h3 he hk
      unfold lop at he hk
      cases eo : op (T px) with
      | none =>
        rw [eo] at hk
        exact hk c px rfl C' pd h1 h2 h3
      | some x =>
        rw [eo] at he hk
        obtain ⟨x1, x2, x3, x4⟩ := hop _ _ eo
        refine cG _ _ _ _ _ _ _ _ _ (by simp only [List.length_append]; omega) (by omega) (hg _ _ _ _ _ _ _ _ _ _ x eo hph h2 hst ?_)
        rw [h1]
        refine hP kd ph false pa (x :: os) fs (C ++ c) (T px).nx hph (fun z => absurd z (by rw [Bool.and_false]; decide)) (sto_c (by omega)) (by simp only [List.length_cons]; omega) hl (fun e he2 => he e (by show bd (P (T px).nx) _ = _; rw [he2]; rfl)) (fun y py ey C2 pd2 g1 g2 g3 => ?_)
        have t := ih (c ++ (y ++ [(2, x)])) py C2 (pd2 ++ [x]) (by rw [List.map_append, ← List.append_assoc, g1]; simp [x3]) (fun z hz => by
          rcases List.mem_append.mp hz with hz | hz
          · have := g2 z hz; omega
          · rw [List.mem_singleton.mp hz]; omega) (by simp only [List.length_append, List.length_cons, List.length_nil]; omega) (fun e he2 => he e (by show bd (P (T px).nx) _ = _; rw [ey]; exact he2)) (fun c' p' e2 => hk c' p' (by show bd (P (T px).nx) _ = _; rw [ey]; exact e2))
        rw [List.append_assoc, nts_a] at t
        have e0 : nts [x] = 0 := by show 0 + (if x = 43 then 1 else 0) = 0; rw [if_neg x2]
        rw [e0] at t
        exact t
  refine hP kd ph bg pa os fs C p hph hf (sto_m (by omega) hst) (by omega) hl (fun e e1 => he e (by show bd (P p) _ = _; rw [e1]; rfl)) (fun c px e1 C' pd g1 g2 g3 => ?_)
  exact loop 1600 c px C' pd g1 (fun x hx => by have := g2 x hx; omega) (by omega) (fun e e2 => he e (by show bd (P p) _ = _; rw [e1]; exact e2)) (fun c' p' e2 => hk c' p' (by show bd (P p) _ = _; rw [e1]; exact e2))
theorem chT {op : Sg → Option Nat} {P : Pz} {r q w x o N L : Nat} (cG : ClG T G E DN) (hop : ∀ t y, op t = some y → y = x ∧ own t = some w) (hx : rnk x = r ∧ x ≠ 43 ∧ tkO x = (2, x)) (hq : r < q) (hr : 1 ≤ r)
    (hg : ∀ (kd ph : Nat) (bg : Bool) (pa : Nat) (pd os : List Nat) (fs : List Fr) (C : List Tk) (o p : Nat), own (T p) = some w → isT kd = true → ph ≠ 0 → (∀ y, y ∈ pd → r ≤ rnk y) → sto r os → G ((kd, 0, true, pa, x :: os) :: fs, C ++ pd.map tkO, o, (T p).nx, false) → stG T G E DN kd ph bg pa (pd ++ os) fs C (o + nts pd) p)
    (hP : SpT T G E P (r + 1) q o N L) : SpT T G E (chn T op P) r r o (N + 1) L := by
  intro kd pa os fs C p hkd hst hb hl he hk
  have loop : ∀ (rr : Nat) (c : List Tk) (px : Nat) (C' : List Tk) (pd : List Nat) (ph : Nat), (ph = 1 ∧ opS (T px) = none ∧ opP (T px) = none ∨ ph = 2) → C' ++ pd.map tkO = C ++ c → (∀ x, x ∈ pd → r ≤ rnk x) → pd.length ≤ N + 1 → (∀ e, lop T op P rr c px = .error e → E e) → (∀ c' p', lop T op P rr c px = .ok (c', p') → ∀ C' pd ph, (ph = 1 ∧ opS (T p') = none ∧ opP (T p') = none ∨ ph = 2) → C' ++ pd.map tkO = C ++ c' → (∀ x, x ∈ pd → r ≤ rnk x) → pd.length ≤ N + 1 → G ((kd, ph, false, pa, pd ++ os) :: fs, C', o + nts pd, p', true)) → G ((kd, ph, false, pa, pd ++ os) :: fs, C', o + nts pd, px, true) := by
    intro rr
    induction rr with
    | zero =>
      intro c px C' pd ph h0 h1 h2 h3 he hk
      exact hk c px rfl C' pd ph h0 h1 h2 h3
    | succ rr ih =>
      intro c px C' pd ph h0 h1 h2 h3 he hk
      unfold lop at he hk
      cases eo : op (T px) with
      | none =>
        rw [eo] at hk
        exact hk c px rfl C' pd ph h0 h1 h2 h3
      | some y =>
        rw [eo] at he hk
        obtain ⟨rfl, ow⟩ := hop _ _ eo
        refine cG _ _ _ _ _ _ _ _ _ (by simp only [List.length_append]; omega) (by omega) (hg _ _ _ _ _ _ _ _ _ _ ow hkd (by omega) h2 hst ?_)
        rw [h1]
        refine hP kd pa (y :: os) fs (C ++ c) (T px).nx hkd (sto_c (by omega)) (by simp only [List.length_cons]; omega) hl (fun e he2 => he e (by show bd (P (T px).nx) _ = _; rw [he2]; rfl)) (fun z pz ez C2 pd2 ph2 g0 g1 g2 g3 => ?_)
        have t := ih (c ++ (z ++ [(2, y)])) pz C2 (pd2 ++ [y]) ph2 g0 (by rw [List.map_append, ← List.append_assoc, g1]; simp [hx.2.2]) (fun u hu => by
          rcases List.mem_append.mp hu with hu | hu
          · have := g2 u hu; omega
          · rw [List.mem_singleton.mp hu]; omega) (by simp only [List.length_append, List.length_cons, List.length_nil]; omega) (fun e he2 => he e (by show bd (P (T px).nx) _ = _; rw [ez]; exact he2)) (fun c' p' e2 => hk c' p' (by show bd (P (T px).nx) _ = _; rw [ez]; exact e2))
        rw [List.append_assoc, nts_a] at t
        have e0 : nts [y] = 0 := by show 0 + (if y = 43 then 1 else 0) = 0; rw [if_neg hx.2.1]
        rw [e0] at t
        exact t
  refine hP kd pa os fs C p hkd (sto_m (by omega) hst) (by omega) hl (fun e e1 => he e (by show bd (P p) _ = _; rw [e1]; rfl)) (fun c px e1 C' pd ph g0 g1 g2 g3 => ?_)
  exact loop 1600 c px C' pd ph g0 g1 (fun x hx => by have := g2 x hx; omega) (by omega) (fun e e2 => he e (by show bd (P p) _ = _; rw [e1]; exact e2)) (fun c' p' e2 => hk c' p' (by show bd (P p) _ = _; rw [e1]; exact e2))
def Ks (T : Nat → Sg) : Prop := ∀ p, (T p).k ≠ 4 → (T p).pl = (T p).st
def eSm (T : Nat → Sg) (S : Pz) : Prop := ∀ p c p', S p = .ok (c, p') → opS (T p') = none ∧ opP (T p') = none
def eTs (T : Nat → Sg) (Te : Pz) : Prop := ∀ p c p', Te p = .ok (c, p') → own (T p') ≠ some 17 ∧ own (T p') ≠ some 16
/-- a sum in a frame of its own, then a sign -/
theorem frS {S : Pz} {kd pa o N L c0 : Nat} {bg : Bool} {F : Fr} {fs : List Fr} {C : List Tk} {p : Nat} (cG : ClG T G E DN) (ks : Ks T) (es : eSm T S) (hS : SpS T G E S 5 o N L) (hkd : isT kd = false) (hc : kd = 3 ∧ c0 = 44 ∨ kd ≠ 3 ∧ kd ≠ 5 ∧ kd ≠ 6 ∧ 2 ≤ kd ∧ c0 = 41) (hb : tot (F :: fs) + N ≤ 490) (hl : fs.length + 1 + L ≤ 17) (he : ∀ e, (bd (S p) fun r => bd (exS T c0 r.2) fun q => .ok (r.1, q)) = .error e → E e)
    (hk : ∀ c q, (bd (S p) fun r => bd (exS T c0 r.2) fun q => .ok (r.1, q)) = .ok (c, q) → (kd = 3 → G ((4, 0, false, pa, []) :: F :: fs, C ++ c, o, q, false)) ∧ (kd ≠ 3 → G (F :: fs, (if kd = 4 then C ++ c ++ [tkO pa] else C ++ c), o - 1, q, true))) : G ((kd, 0, bg, pa, []) :: F :: fs, C, o, p, false) := by
  refine hS kd 0 bg pa [] (F :: fs) C p (by decide) (fun z => absurd z (by rw [hkd, Bool.false_and]; decide)) sto_0 (by simp only [List.length_nil]; omega) (by simp only [List.length_cons]; omega) (fun e e1 => he e (by rw [e1]; rfl)) (fun c px e1 C' pd g1 g2 g3 => ?_)
  have nd := es _ _ _ e1
  have he1 : ∀ e, exS T c0 px = .error e → E e := fun e e2 => he e (by rw [e1]; show bd (exS T c0 px) _ = _; rw [e2]; rfl)
  have hex : isS (T px) c0 = false → exS T c0 px = .error (1, (T px).pl) := fun z => by unfold exS; rw [z]
  refine cG _ _ _ _ _ _ _ _ _ (by simp only [List.length_append, List.length_nil]; omega) (by simp only [List.length_cons]; omega) (gE (fun c4 => he1 _ (hex (isS_nk (by omega)))) (fun _ => nd) (fun z => absurd z (by rw [hkd]; decide)) (fun c4 => ?_))
  rw [g1]
  unfold stE
  rw [if_neg (by omega)]
  cases ei : isS (T px) c0 with
  | false =>
    have t := he1 _ (hex ei)
    rw [ks _ c4] at t
    rcases hc with ⟨rfl, rfl⟩ | ⟨h3, h5, h6, h7, rfl⟩
    · rw [if_pos (Or.inl rfl), if_neg (by rw [ei]; decide)]
      exact t
    · rw [if_neg (by omega), if_neg h5, if_neg (by rw [ei]; decide)]
      exact t
  | true =>
    have t := hk c (T px).nx (by rw [e1]; show bd (exS T c0 px) _ = _; unfold exS; rw [ei]; rfl)
    rcases hc with ⟨rfl, rfl⟩ | ⟨h3, h5, h6, h7, rfl⟩
    · rw [if_pos (Or.inl rfl), if_pos ei]
      exact t.1 rfl
    · rw [if_neg (by omega), if_neg h5, if_pos ei]
      show G ((F.1, (if kd = 5 then 2 else F.2.1), F.2.2) :: fs, _, _, _, _)
      rw [if_neg h5]
      exact t.2 h3
/-- a test in a frame of its own, then a sign -/
theorem frT {Te : Pz} {kd pa o N L c0 : Nat} {F : Fr} {fs : List Fr} {C : List Tk} {p : Nat} (cG : ClG T G E DN) (ks : Ks T) (es : eTs T Te) (hT : SpT T G E Te 1 1 o N L) (hc : kd = 6 ∧ c0 = 44 ∨ kd = 5 ∧ c0 = 93) (hb : tot (F :: fs) + N ≤ 490) (hl : fs.length + 1 + L ≤ 17) (he : ∀ e, (bd (Te p) fun r => bd (exS T c0 r.2) fun q => .ok (r.1, q)) = .error e → E e)
    (hk : ∀ c q, (bd (Te p) fun r => bd (exS T c0 r.2) fun q => .ok (r.1, q)) = .ok (c, q) → (kd = 6 → G ((3, 0, false, pa, []) :: F :: fs, C ++ c, o, q, false)) ∧ (kd = 5 → G ((F.1, 2, F.2.2) :: fs, C ++ c, o - 1, q, true))) : G ((kd, 0, true, pa, []) :: F :: fs, C, o, p, false) := by
  refine hT kd pa [] (F :: fs) C p (by rcases hc with ⟨rfl, -⟩ | ⟨rfl, -⟩ <;> decide) sto_0 (by simp only [List.length_nil]; omega) (by simp only [List.length_cons]; omega) (fun e e1 => he e (by rw [e1]; rfl)) (fun c px e1 C' pd ph g0 g1 g2 g3 => ?_)
  have nd := es _ _ _ e1
  have he1 : ∀ e, exS T c0 px = .error e → E e := fun e e2 => he e (by rw [e1]; show bd (exS T c0 px) _ = _; rw [e2]; rfl)
  have hex : isS (T px) c0 = false → exS T c0 px = .error (1, (T px).pl) := fun z => by unfold exS; rw [z]
  refine cG _ _ _ _ _ _ _ _ _ (by simp only [List.length_append, List.length_nil]; omega) (by simp only [List.length_cons]; omega) (gE (fun c4 => he1 _ (hex (isS_nk (by omega)))) (fun h2 => by
    rcases g0 with g0 | g0
    · exact g0.2
    · omega) (fun _ => ⟨by omega, nd⟩) (fun c4 => ?_))
  rw [g1]
  unfold stE
  rw [if_neg (by omega)]
  cases ei : isS (T px) c0 with
  | false =>
    have t := he1 _ (hex ei)
    rw [ks _ c4] at t
    rcases hc with ⟨rfl, rfl⟩ | ⟨rfl, rfl⟩
    · rw [if_pos (Or.inr rfl), if_neg (by rw [ei]; decide)]
      exact t
    · rw [if_neg (by decide), if_pos rfl, if_neg (by rw [ei]; decide)]
      exact t
  | true =>
    have t := hk c (T px).nx (by rw [e1]; show bd (exS T c0 px) _ = _; unfold exS; rw [ei]; rfl)
    rcases hc with ⟨rfl, rfl⟩ | ⟨rfl, rfl⟩
    · rw [if_pos (Or.inr rfl), if_pos ei]
      exact t.1 rfl
    · rw [if_neg (by decide), if_pos rfl, if_pos ei]
      exact t.2 rfl
end PSm
