/-! statements: what a text tells -/
abbrev Sa : Type := Nat × Wk × List Tk
def Wk.aC (W : Wk) (l : List Nat) (s p : Nat) : Wk := (W.nc + 1, W.nm, upd1 W.csz W.nc s, upd1 W.cpy W.nc p, W.msz, W.mag, W.mco, upd1 W.cnm W.nc l, W.mnm, W.fire, W.pr)
def Wk.aM (W : Wk) (l : List Nat) (s a : Nat) : Wk := (W.nc, W.nm + 1, W.csz, W.cpy, upd1 W.msz W.nm s, upd1 W.mag W.nm a, upd1 W.mco W.nm none, W.cnm, upd1 W.mnm W.nm l, W.fire, W.pr)
def Wk.aW (W : Wk) (k c : Nat) : Wk := (W.nc, W.nm, W.csz, W.cpy, W.msz, W.mag, upd1 W.mco k (some c), W.cnm, W.mnm, W.fire, W.pr)
def Wk.aF (W : Wk) (v : Nat) : Wk := (W.nc, W.nm, W.csz, W.cpy, W.msz, W.mag, W.mco, W.cnm, W.mnm, v, W.pr)
def Wk.aP (W : Wk) (k : Nat) (c : List Tk) : Wk := (W.nc, W.nm, W.csz, W.cpy, W.msz, W.mag, W.mco, W.cnm, W.mnm, W.fire, upd1 W.pr k (some c))
def W00 : Wk := (0, 0, fun _ => 0, fun _ => 0, fun _ => 0, fun _ => 0, fun _ => none, fun _ => [], fun _ => [], 0, fun _ => none)
/-- who is called so -/
def cnd (W : Wk) (l : List Nat) : Option Nat := ff (fun k => decide (W.cnm k = l)) W.nc 0
def mnd (W : Wk) (l : List Nat) : Option Nat := ff (fun k => decide (W.mnm k = l)) W.nm 0
/-- who wears it at first -/
def fwr (W : Wk) (c : Nat) : Option Nat := ff (fun k => decide (W.mco k = some c)) W.nm 0
section PSm
variable (T : Nat → Sg)
def frs (W : Wk) (p : Nat) : Rs (List Nat × Nat) := bd (nam T p) fun l => if (cnd W l).isSome = true ∨ (mnd W l).isSome = true then .error (2, (T p).st) else .ok (l, (T p).nx)
def coS (a : Sa) : Rs Sa := if a.2.1.nc = 8 then .error (6, (T a.1).st) else
  bd (frs T a.2.1 (T a.1).nx) fun l => bd (wrd T 1 l.2) fun q => bd (num T 1 99 q) fun v => bd (wrd T 2 v.2) fun q => bd (num T 0 99 q) fun u => .ok (u.2, a.2.1.aC l.1 v.1 u.1, a.2.2)
def maS (a : Sa) : Rs Sa := if a.2.1.nm = 7 then .error (6, (T a.1).st) else
  bd (frs T a.2.1 (T a.1).nx) fun l => bd (wrd T 1 l.2) fun q => bd (num T 1 99 q) fun v => bd (wrd T 4 v.2) fun q => bd (num T 0 99 q) fun u => .ok (u.2, a.2.1.aM l.1 v.1 u.1, a.2.2)
def we2 (W : Wk) (k p : Nat) (C : List Tk) : Rs Sa := bd (nam T p) fun l => match cnd W l with
  | none => .error (3, (T p).st)
  | some c => if (fwr W c).isSome = true then .error (3, (T p).st) else .ok ((T p).nx, W.aW k c, C)
def we1 (W : Wk) (p : Nat) (C : List Tk) : Rs Sa := bd (nam T p) fun l => match mnd W l with
  | none => .error (3, (T p).st)
  | some k => if (W.mco k).isSome = true then .error (3, (T p).st) else bd (wrd T 6 (T p).nx) fun q => we2 T W k q C
def prS (k : Nat) (a : Sa) : Rs Sa := if (a.2.1.pr k).isSome = true then .error (6, (T a.1).st) else bd (prX T k (T a.1).nx) fun r => .ok (r.2, a.2.1.aP k r.1, a.2.2 ++ r.1)
def fiS (a : Sa) : Rs Sa := bd (num T 0 100 (T a.1).nx) fun v => .ok (v.2, a.2.1.aF v.1, a.2.2)
def stm (a : Sa) : Rs Sa :=
  if own (T a.1) = some 0 then coS T a
  else if own (T a.1) = some 3 then maS T a
  else if own (T a.1) = some 5 then we1 T a.2.1 (T a.1).nx a.2.2
  else if own (T a.1) = some 7 then prS T 0 a
  else if own (T a.1) = some 8 then prS T 1 a
  else if own (T a.1) = some 9 then prS T 2 a
  else if own (T a.1) = some 10 then fiS T a
  else .error (1, (T a.1).pl)
def stf (a : Sa) : Rs Sa := bd (stm T a) fun b => bd (exS T 59 b.1) fun q => .ok (q, b.2)
def stl : Nat → Nat → Sa → Rs (Nat × Sa)
  | 0, ct, a => if (T a.1).k = 0 then .ok (ct, a) else .error (6, (T a.1).st)
  | r + 1, ct, a => if (T a.1).k = 0 then .ok (ct, a) else bd (stf T a) (stl r (ct + 1))
end PSm
/-- what holds of a works that is being told -/
def SV (a : Sa) : Prop := WV a.2.1 ∧ a.2.2.length ≤ a.1 ∧ a.2.1.nc ≤ 8 ∧ a.2.1.nm ≤ 7
theorem WV_0 : WV W00 := ⟨fun p ts _ e => (by cases e), Nat.zero_le _, fun k h => absurd h (Nat.not_lt_zero _), fun k h => absurd h (Nat.not_lt_zero _), fun k c h => absurd h (Nat.not_lt_zero _), fun j k c h => absurd h (Nat.not_lt_zero _)⟩
section PSn
variable {m : Nat} {f : Nat → Nat}
theorem nam_ok {p : Nat} {l : List Nat} (h : nam (sgn m f) p = .ok l) : (sgn m f p).k = 1 ∧ own (sgn m f p) = none ∧ l = (sgn m f p).ls ∧ nmV l := by
  unfold nam at h
  split at h
  · rename_i c
    cases h
    exact ⟨c.1, c.2, rfl, sgn_1 c.1⟩
  · cases h
theorem wrd_ok {w p q : Nat} (h : wrd (sgn m f) w p = .ok q) : own (sgn m f p) = some w ∧ q = (sgn m f p).nx ∧ p < q ∧ q ≤ m := by
  unfold wrd at h
  split at h
  · rename_i c
    cases h
    have := sgn_nx (n := m) (f := f) (p := p) (by rw [own_k c]; decide)
    exact ⟨c, rfl, this.1, this.2⟩
  · cases h
theorem num_ok {a b p : Nat} {v : Nat × Nat} (h : num (sgn m f) a b p = .ok v) : (sgn m f p).k = 2 ∧ a ≤ v.1 ∧ v.1 ≤ b ∧ v.1 = (sgn m f p).v ∧ v.2 = (sgn m f p).nx ∧ p < v.2 ∧ v.2 ≤ m := by
  unfold num at h
  split at h
  · rename_i c
    split at h
    · rename_i d
      cases h
      have := sgn_nx (n := m) (f := f) (p := p) (by rw [c]; decide)
      exact ⟨c, d.1, d.2, rfl, rfl, this.1, this.2⟩
    · cases h
  · cases h
theorem frs_ok {W : Wk} {p : Nat} {l : List Nat × Nat} (h : frs (sgn m f) W p = .ok l) : nam (sgn m f) p = .ok l.1 ∧ cnd W l.1 = none ∧ mnd W l.1 = none ∧ l.2 = (sgn m f p).nx ∧ nmV l.1 ∧ p < l.2 ∧ l.2 ≤ m := by
  obtain ⟨x, e, h⟩ := bd_ok h
  have n1 := nam_ok e
  split at h
  · cases h
  · rename_i c
    cases h
    have := sgn_nx (n := m) (f := f) (p := p) (by rw [n1.1]; decide)
    have c1 : cnd W x = none := by
      cases z : cnd W x with
      | none => rfl
      | some y => exact absurd (Or.inl (by rw [z]; rfl)) c
    have c2 : mnd W x = none := by
      cases z : mnd W x with
      | none => rfl
      | some y => exact absurd (Or.inr (by rw [z]; rfl)) c
    exact ⟨e, c1, c2, rfl, n1.2.2.2, this.1, this.2⟩
theorem wo_kn {p w : Nat} (h : own (sgn m f p) = some w) : p < (sgn m f p).nx ∧ (sgn m f p).nx ≤ m := sgn_nx (by rw [own_k h]; decide)
theorem fwr_s {W : Wk} {c j : Nat} (h : fwr W c = none) (hj : j < W.nm) : W.mco j ≠ some c := of_decide_eq_false (ff_none h j (Nat.zero_le _) (by omega))
theorem WV_aC {W : Wk} {l : List Nat} {s p : Nat} (h : WV W) (hl : nmV l) (h1 : 1 ≤ s) (h2 : s ≤ 99) (h3 : p ≤ 99) : WV (W.aC l s p) := by
  obtain ⟨a1, a2, a3, a4, a5, a6⟩ := h
  refine ⟨a1, a2, fun k hk => ?_, a4, fun k c hk e => Nat.lt_succ_of_lt (a5 k c hk e), a6⟩
  by_cases e : k = W.nc
  · subst e
    show 1 ≤ upd1 W.csz W.nc s W.nc ∧ upd1 W.csz W.nc s W.nc ≤ 99 ∧ upd1 W.cpy W.nc p W.nc ≤ 99 ∧ nmV (upd1 W.cnm W.nc l W.nc)
    rw [upd1_e, upd1_e, upd1_e]
    exact ⟨h1, h2, h3, hl⟩
  · show 1 ≤ upd1 W.csz W.nc s k ∧ upd1 W.csz W.nc s k ≤ 99 ∧ upd1 W.cpy W.nc p k ≤ 99 ∧ nmV (upd1 W.cnm W.nc l k)
    rw [upd1_n e, upd1_n e, upd1_n e]
    have hk : k < W.nc + 1 := hk
    exact a3 k (by omega)
theorem WV_aM {W : Wk} {l : List Nat} {s a : Nat} (h : WV W) (hl : nmV l) (h1 : 1 ≤ s) (h2 : s ≤ 99) (h3 : a ≤ 99) : WV (W.aM l s a) := by
  obtain ⟨a1, a2, a3, a4, a5, a6⟩ := h
  have mc : ∀ k c, upd1 W.mco W.nm none k = some c → k ≠ W.nm ∧ W.mco k = some c := fun k c e => by
    by_cases z : k = W.nm
    · rw [z, upd1_e] at e; cases e
    · rw [upd1_n z] at e; exact ⟨z, e⟩
  refine ⟨a1, a2, a3, fun k hk => ?_, fun k c hk e => ?_, fun j k c hj hk e1 e2 => ?_⟩
  · have hk : k < W.nm + 1 := hk
    by_cases e : k = W.nm
    · subst e
      show 1 ≤ upd1 W.msz W.nm s W.nm ∧ upd1 W.msz W.nm s W.nm ≤ 99 ∧ upd1 W.mag W.nm a W.nm ≤ 99 ∧ nmV (upd1 W.mnm W.nm l W.nm)
      rw [upd1_e, upd1_e, upd1_e]
      exact ⟨h1, h2, h3, hl⟩
    · show 1 ≤ upd1 W.msz W.nm s k ∧ upd1 W.msz W.nm s k ≤ 99 ∧ upd1 W.mag W.nm a k ≤ 99 ∧ nmV (upd1 W.mnm W.nm l k)
      rw [upd1_n e, upd1_n e, upd1_n e]
      exact a4 k (by omega)
  · have hk : k < W.nm + 1 := hk
    have z := mc k c e
    exact a5 k c (by omega) z.2
  · have hj : j < W.nm + 1 := hj
    have hk : k < W.nm + 1 := hk
    have z1 := mc j c e1
    have z2 := mc k c e2
    exact a6 j k c (by omega) (by omega) z1.2 z2.2
theorem WV_aW {W : Wk} {i c : Nat} (h : WV W) (hc : c < W.nc) (hf : fwr W c = none) : WV (W.aW i c) := by
  obtain ⟨a1, a2, a3, a4, a5, a6⟩ := h
  have mc : ∀ k d, upd1 W.mco i (some c) k = some d → k = i ∧ d = c ∨ k ≠ i ∧ W.mco k = some d := fun k d e => by
    by_cases z : k = i
    · rw [z, upd1_e] at e; cases e; exact Or.inl ⟨z, rfl⟩
    · rw [upd1_n z] at e; exact Or.inr ⟨z, e⟩
  refine ⟨a1, a2, a3, a4, fun k d hk e => ?_, fun j k d hj hk e1 e2 => ?_⟩
  · rcases mc k d e with z | z
    · rw [z.2]; exact hc
    · exact a5 k d hk z.2
  · rcases mc j d e1 with z1 | z1
    · rcases mc k d e2 with z2 | z2
      · rw [z1.1, z2.1]
      · rw [z1.2] at z2
        exact absurd z2.2 (fwr_s hf hk)
    · rcases mc k d e2 with z2 | z2
      · rw [z2.2] at z1
        exact absurd z1.2 (fwr_s hf hj)
      · exact a6 j k d hj hk z1.2 z2.2
theorem WV_aP {W : Wk} {k : Nat} {c : List Tk} (h : WV W) (h1 : c ≠ []) (h2 : tys k c [] [decide (k = 2)]) : WV (W.aP k c) := by
  obtain ⟨a1, a2, a3, a4, a5, a6⟩ := h
  refine ⟨fun p ts hp e => ?_, a2, a3, a4, a5, a6⟩
  have e : upd1 W.pr k (some c) p = some ts := e
  by_cases z : p = k
  · subst z
    rw [upd1_e] at e
    cases e
    exact ⟨h1, h2⟩
  · rw [upd1_n z] at e
    exact a1 p ts hp e
theorem prX_ok {pg p : Nat} {r : List Tk × Nat} (h : prX (sgn m f) pg p = .ok r) : p + r.1.length ≤ r.2 ∧ r.2 ≤ m ∧ r.1 ≠ [] ∧ tys pg r.1 [] [decide (pg = 2)] := by
  have g := lev_gd (pg := pg) (sgn_TN (n := m) (f := f)) 7
  unfold prX at h
  by_cases c : pg = 2
  · rw [if_pos c] at h
    have t := g.2.1 p r.1 r.2 h
    rw [decide_eq_true c]
    exact ⟨t.1, t.2.1, t.2.2.1, t.2.2.2 [] (by decide)⟩
  · rw [if_neg c] at h
    have t := g.1 p r.1 r.2 h
    rw [decide_eq_false c]
    exact ⟨t.1, t.2.1, t.2.2.1, t.2.2.2 [] (by decide)⟩
/-- a statement leaves a works well told -/
theorem stm_v {a b : Sa} (h : SV a) (e : stm (sgn m f) a = .ok b) : SV b := by
  obtain ⟨w1, w2, w3, w4⟩ := h
  unfold stm at e
  split at e
  · rename_i c
    have n0 := wo_kn c
    unfold coS at e
    split at e
    · cases e
    · rename_i c8
      obtain ⟨l, e1, e⟩ := bd_ok e
      obtain ⟨q1, e2, e⟩ := bd_ok e
      obtain ⟨v, e3, e⟩ := bd_ok e
      obtain ⟨q2, e4, e⟩ := bd_ok e
      obtain ⟨u, e5, e⟩ := bd_ok e
      cases e
      have t1 := frs_ok e1
      have t2 := wrd_ok e2
      have t3 := num_ok e3
      have t4 := wrd_ok e4
      have t5 := num_ok e5
      refine ⟨WV_aC w1 t1.2.2.2.2.1 t3.2.1 t3.2.2.1 t5.2.2.1, ?_, ?_, w4⟩
      · show a.2.2.length ≤ u.2
        omega
      · show a.2.1.nc + 1 ≤ 8
        omega
  · split at e
    · rename_i c
      have n0 := wo_kn c
      unfold maS at e
      split at e
      · cases e
      · rename_i c8
        obtain ⟨l, e1, e⟩ := bd_ok e
        obtain ⟨q1, e2, e⟩ := bd_ok e
        obtain ⟨v, e3, e⟩ := bd_ok e
        obtain ⟨q2, e4, e⟩ := bd_ok e
        obtain ⟨u, e5, e⟩ := bd_ok e
        cases e
        have t1 := frs_ok e1
        have t2 := wrd_ok e2
        have t3 := num_ok e3
        have t4 := wrd_ok e4
        have t5 := num_ok e5
        refine ⟨WV_aM w1 t1.2.2.2.2.1 t3.2.1 t3.2.2.1 t5.2.2.1, ?_, w3, ?_⟩
        · show a.2.2.length ≤ u.2
          omega
        · show a.2.1.nm + 1 ≤ 7
          omega
    · split at e
      · rename_i c
        have n0 := wo_kn c
        obtain ⟨l, e1, e⟩ := bd_ok e
        have t1 := nam_ok e1
        have n1 := sgn_nx (n := m) (f := f) (p := (sgn m f a.1).nx) (by rw [t1.1]; decide)
        cases z1 : mnd a.2.1 l with
        | none => simp only [z1] at e; cases e
        | some k =>
          simp only [z1] at e
          split at e
          · cases e
          · obtain ⟨q1, e2, e⟩ := bd_ok e
            have t2 := wrd_ok e2
            obtain ⟨l2, e3, e⟩ := bd_ok e
            have t3 := nam_ok e3
            have n3 := sgn_nx (n := m) (f := f) (p := q1) (by rw [t3.1]; decide)
            cases z2 : cnd a.2.1 l2 with
            | none => simp only [z2] at e; cases e
            | some c2 =>
              simp only [z2] at e
              split at e
              · cases e
              · rename_i c3
                cases e
                have y1 := ff_some z2
                have y2 : fwr a.2.1 c2 = none := by
                  cases y : fwr a.2.1 c2 with
                  | none => rfl
                  | some x => rw [y] at c3; exact absurd rfl c3
                refine ⟨WV_aW w1 (by omega) y2, ?_, w3, w4⟩
                show a.2.2.length ≤ (sgn m f q1).nx
                omega
      · have pc : ∀ k, own (sgn m f a.1) = some (7 + k) → prS (sgn m f) k a = .ok b → SV b := fun k c e => by
          have n0 := wo_kn c
          unfold prS at e
          split at e
          · cases e
          · obtain ⟨r, e1, e⟩ := bd_ok e
            cases e
            have t := prX_ok e1
            refine ⟨WV_aP w1 t.2.2.1 t.2.2.2, ?_, w3, w4⟩
            show (a.2.2 ++ r.1).length ≤ r.2
            rw [List.length_append]
            omega
        split at e
        · rename_i c; exact pc 0 c e
        · split at e
          · rename_i c; exact pc 1 c e
          · split at e
            · rename_i c; exact pc 2 c e
            · split at e
              · rename_i c
                have n0 := wo_kn c
                obtain ⟨v, e1, e⟩ := bd_ok e
                cases e
                have t := num_ok e1
                refine ⟨⟨w1.1, t.2.2.1, w1.2.2⟩, ?_, w3, w4⟩
                show a.2.2.length ≤ v.2
                omega
              · cases e
theorem stf_v {a b : Sa} (h : SV a) (e : stf (sgn m f) a = .ok b) : SV b := by
  obtain ⟨c, e1, e⟩ := bd_ok e
  obtain ⟨q, e2, e⟩ := bd_ok e
  cases e
  have t := stm_v h e1
  have x := exS_n (sgn_TN (n := m) (f := f)) e2
  exact ⟨t.1, by show c.2.2.length ≤ q; have := t.2.1; omega, t.2.2⟩
theorem stl_v : ∀ {r ct : Nat} {a : Sa} {b : Nat × Sa}, SV a → stl (sgn m f) r ct a = .ok b → SV b.2 ∧ b.1 ≤ ct + r
  | 0, ct, a, b, h, e => by
    unfold stl at e
    split at e
    · cases e; exact ⟨h, Nat.le_refl _⟩
    · cases e
  | r + 1, ct, a, b, h, e => by
    unfold stl at e
    split at e
    · cases e; exact ⟨h, Nat.le_add_right _ _⟩
    · obtain ⟨c, e1, e⟩ := bd_ok e
      have t := stl_v (stf_v h e1) e
      exact ⟨t.1, by omega⟩
end PSn
