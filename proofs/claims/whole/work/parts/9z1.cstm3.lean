/-! the class's reading: who wears what, programs -/
theorem CWp_aW {W : Wk} {C : List Tk} {I I' : Nat → Nat → Int32} {k c : Nat} (h : CWp W C I) (hf : ∀ x j, (19 ≤ x ∧ x ≤ 25) ∨ x = 27 ∨ x = 28 ∨ (x = 18 ∧ (j = 12 ∨ j = 13 ∨ j = 15)) → ¬ (x = 25 ∧ j = k) → I' x j = I x j) (e : I' 25 k = nI c) : CWp (W.aW k c) C I' := by
  obtain ⟨⟨w1, w2, w3, w4, w5⟩, w6, w7, w8, w9⟩ := h
  refine ⟨⟨w1, w2, (hf _ _ (by omega) (by omega)).trans w3, (hf _ _ (by omega) (by omega)).trans w4, fun j hj => ⟨(hf _ _ (by omega) (by omega)).trans (w5 j hj).1, (hf _ _ (by omega) (by omega)).trans (w5 j hj).2⟩⟩, PCp_fr (fun c j hc => hf c j (by omega) (by omega)) w6, (hf _ _ (by omega) (by omega)).trans w7, fun j hj => (hf _ _ (by omega) (by omega)).trans (w8 j hj), fun j hj => ⟨(hf _ _ (by omega) (by omega)).trans (w9 j hj).1, (hf _ _ (by omega) (by omega)).trans (w9 j hj).2.1, (hf _ _ (by omega) (by omega)).trans (w9 j hj).2.2.1, ?_⟩⟩
  show I' 25 j = wo (upd1 W.mco k (some c) j)
  by_cases z : j = k
  · subst z
    rw [upd1_e]
    exact e
  · rw [upd1_n z]
    exact (hf _ _ (by omega) (by omega)).trans (w9 j hj).2.2.2
section PKt
variable {n h : Nat} {Q : pj_K} {I : Nat → Nat → Int32} {J : Nat → Nat → Int64} {m : Nat} {f : Nat → Nat} {ct : Nat}
theorem fwr_C {W : Wk} {c : Nat} (h8 : W.nc ≤ 8) (hV : WV W) (hc : c < 2 ^ 31) (hw : ∀ k, k < W.nm → I 25 k = wo (W.mco k)) : ff (fun k => decide (I 25 k = nI c)) W.nm 0 = fwr W c := ff_cong (fun j _ hj => by
  have hj : j < W.nm := by omega
  rw [hw j hj]
  exact decide_eq_decide.mpr (wo_eq (fun d e => by have := hV.2.2.2.2.1 j d hj e; omega) hc))
/-- Reading.readWears -/
theorem f47 (hh : 5 ≤ h) {a : Sa} (hk : KS m f ct (.ok a) I) (hV : SV a) (ho : own (sgn m f a.1) = some 5) (q : ∀ I', pj_fr sC I I' → KS m f ct (we1 (sgn m f) a.2.1 (sgn m f a.1).nx a.2.2) I' → Q none (zc n, I', J)) : pj_D h 47 [.ref 31] (zc n, I, J) Q := by
  obtain ⟨⟨pg, hs⟩, kb, hc⟩ := hk
  have hs : RS m f pg 0 (.ok (a.1, a.2.2)) I := hs
  have hcw := hc a rfl
  have hcw' := hcw
  obtain ⟨⟨h8, h7, h12, h13, wcs⟩, pc, w15, wcn, wmn⟩ := hcw'
  refine pj_ent (g := 4) hh (t := mt_47) rfl rfl (v47_0 (pj_D_le 4) I J ?_)
  have erQ : ∀ e I9, pj_fr eS I I9 → we1 (sgn m f) a.2.1 (sgn m f a.1).nx a.2.2 = .error e → RS m f pg 0 (.error e) I9 → Q none (zc n, I9, J) := fun e I9 f9 u s9 => q I9 (sC_w f9) (by rw [u]; exact KS_er s9 (KB_e f9 kb))
  have tail : ∀ (k : Nat) (s2 : Zt), k < a.2.1.nm → (∀ x, s2 = .ok x → x.2 = a.2.2) → (we1 (sgn m f) a.2.1 (sgn m f a.1).nx a.2.2 = bd s2 fun x => we2 (sgn m f) a.2.1 k x.1 a.2.2) → ∀ I6, pj_fr eS I I6 → RS m f pg 0 s2 I6 → pj_D 4 42 [.ref 31] (zc n, I6, J) (kI n fun v7 I7 J7 => pj_D 4 101 [.ref 18, .int v7] (zc n, I7, J7) (kI n fun v8 I8 J8 => ((v8 = (-1) → pj_D 4 39 [.ref 31, .int 3, .int (I8 32 5)] (zc n, I8, J8) (kV n fun I9 J9 => Q none (zc n, I9, J9))) ∧ (¬ v8 = (-1) → pj_D 4 99 [.ref 18, .int v8] (zc n, I8, J8) (kI n fun v10 I10 J10 => ((v10 = (-1) → pj_D 4 65 [.ref 32] (zc n, I10, J10) (kV n fun I11 J11 => (vp_in (nI k) 7 ∧ Q none (zc n, (pj_u I11 25 k v8), J11)))) ∧ (¬ v10 = (-1) → pj_D 4 39 [.ref 31, .int 3, .int (I10 32 5)] (zc n, I10, J10) (kV n fun I12 J12 => Q none (zc n, I12, J12))))))))) := by
    intro k s2 hk hx we I6 f6 s6
    have vi : vp_in (nI k) 7 := vp_in_nI (by omega) (by decide)
    refine f42 (by decide) s6 (fun I7 v7 f7 s7 hv7 => kI_i ?_)
    have F7 := pj_fr_tr f6 f7
    refine s101 (by decide) ((F7 18 12 rfl).trans h12) h8 (kI_i ?_)
    have etail : ∀ e, we1 (sgn m f) a.2.1 (sgn m f a.1).nx a.2.2 = .error e → RS m f pg 0 (.error e) I7 → ∀ v8 : Int32, ((v8 = (-1) → pj_D 4 39 [.ref 31, .int 3, .int (I7 32 5)] (zc n, I7, J) (kV n fun I9 J9 => Q none (zc n, I9, J9))) ∧ (¬ v8 = (-1) → pj_D 4 99 [.ref 18, .int v8] (zc n, I7, J) (kI n fun v10 I10 J10 => ((v10 = (-1) → pj_D 4 65 [.ref 32] (zc n, I10, J10) (kV n fun I11 J11 => (vp_in (nI k) 7 ∧ Q none (zc n, (pj_u I11 25 k v8), J11)))) ∧ (¬ v10 = (-1) → pj_D 4 39 [.ref 31, .int 3, .int (I10 32 5)] (zc n, I10, J10) (kV n fun I12 J12 => Q none (zc n, I12, J12))))))) := fun e u s7 v8 => by
      refine ⟨fun _ => f39e (by decide) s7 (kV_i (erQ e I7 F7 u s7)), fun _ => s99 (a := 18) (by decide) (by decide) ((F7 18 13 rfl).trans h13) h7 (kI_i ⟨fun _ => f65 (by decide) s7 (fun b e => by cases e) (fun I11 f11 s11 => kV_i ⟨vi, q _ (sC_u (sC_w (pj_fr_tr F7 (eS_w f11))) (by decide) (by decide)) ?_⟩), fun _ => f39e (by decide) s7 (kV_i (erQ e I7 F7 u s7))⟩)⟩
      rw [u]
      exact KS_er (RS_u rfl s11) (KB_fr (fun j _ => by rw [pj_u_n (by decide)]) (KB_e (pj_fr_tr F7 (eS_w f11)) kb))
    cases s2 with
    | error e => exact etail e we s7 _
    | ok x =>
      have hx2 := hx x rfl
      have we : we1 (sgn m f) a.2.1 (sgn m f a.1).nx a.2.2 = we2 (sgn m f) a.2.1 k x.1 a.2.2 := we
      have s7 : RS m f pg 0 (bd (nam (sgn m f) x.1) _) I7 := s7
      cases e1 : nam (sgn m f) x.1 with
      | error e =>
        rw [e1] at s7
        exact etail e (we.trans (by unfold we2; rw [e1]; rfl)) s7 _
      | ok l =>
        rw [e1] at s7
        have s7 : RS m f pg 0 (.ok x) I7 := s7
        have n1 := nam_ok e1
        have v7e := hv7 x l rfl e1
        subst v7e
        have h5 := s7.2.2.1.2.1
        rw [cnd_C hV.1 n1.2.2.2 (fun k hk => (F7 19 k rfl).trans (wcn k hk)), h5]
        have bad : we2 (sgn m f) a.2.1 k x.1 a.2.2 = .error (3, (sgn m f x.1).st) → pj_D 4 39 [.ref 31, .int 3, .int (nI (sgn m f x.1).st)] (zc n, I7, J) (kV n fun I9 J9 => Q none (zc n, I9, J9)) := fun u => f39 (a := 3) (by decide) (by decide) (by decide) s7 (fun I9 f9 s9 => kV_i (erQ _ I9 (pj_fr_tr F7 f9) (we.trans u) s9))
        cases z1 : cnd a.2.1 l with
        | none =>
          refine ⟨fun _ => bad ?_, fun z => absurd rfl z⟩
          unfold we2
          rw [e1]
          show (match cnd a.2.1 l with | none => _ | some c => _) = _
          rw [z1]
        | some c =>
          have c8 := ff_some z1
          refine ⟨fun z => absurd ((wo_none (fun d e => by cases e; omega)).mp z) (by simp), fun _ => s99 (a := 18) (by decide) (by decide) ((F7 18 13 rfl).trans h13) h7 (kI_i ?_)⟩
          rw [show wo (some c) = nI c from rfl, show (18 : Nat) + 7 = 25 from rfl]
          rw [fwr_C h8 hV.1 (by omega) (fun j hj => (F7 25 j rfl).trans (wmn j hj).2.2.2), h5]
          cases z2 : fwr a.2.1 c with
          | some j =>
            have j7 := ff_some z2
            refine ⟨fun z => absurd ((wo_none (fun d e => by cases e; omega)).mp z) (by simp), fun _ => bad ?_⟩
            unfold we2
            rw [e1]
            show (match cnd a.2.1 l with | none => _ | some c => _) = _
            rw [z1]
            show (if (fwr a.2.1 c).isSome = true then _ else _) = _
            rw [z2]
            rfl
          | none =>
            have u : we2 (sgn m f) a.2.1 k x.1 a.2.2 = .ok ((sgn m f x.1).nx, a.2.1.aW k c, a.2.2) := by
              unfold we2
              rw [e1]
              show (match cnd a.2.1 l with | none => _ | some c => _) = _
              rw [z1]
              show (if (fwr a.2.1 c).isSome = true then _ else _) = _
              rw [z2]
              rfl
            refine ⟨fun _ => f65 (by decide) s7 (fun b e => by cases e; exact Or.inl n1.1) (fun I11 f11 s11 => kV_i ⟨vi, q _ (sC_u (sC_w (pj_fr_tr F7 (eS_w f11))) (by decide) (by decide)) ?_⟩), fun z => absurd rfl z⟩
            have F11 := pj_fr_tr F7 (eS_w f11)
            rw [we, u]
            refine ⟨⟨pg, ?_⟩, KB_fr (fun j _ => by rw [pj_u_n (by decide)]) (KB_e F11 kb), fun b eb => ?_⟩
            · show RS m f pg 0 (.ok ((sgn m f x.1).nx, a.2.2)) _
              rw [← hx2]
              exact RS_u rfl s11
            · cases eb
              refine CWp_aW (CWp_e F11 hcw) (fun y j _ hy => ?_) pj_u_e
              by_cases y1 : y = 25
              · rw [y1, pj_u_j (fun z => hy ⟨y1, z⟩)]
              · rw [pj_u_n y1]
  refine f65 (by decide) hs (fun b e => by cases e; exact Or.inl (own_k ho)) (fun I1 f1 s1 => kV_i ?_)
  have f1 := eS_w f1
  have s1 : RS m f pg 0 (.ok ((sgn m f a.1).nx, a.2.2)) I1 := s1
  refine f42 (by decide) s1 (fun I2 v2 f2 s2 hv2 => kI_i ?_)
  have F2 := pj_fr_tr f1 f2
  refine s102 (by decide) ((F2 18 13 rfl).trans h13) h7 (kI_i ?_)
  have s2 : RS m f pg 0 (bd (nam (sgn m f) (sgn m f a.1).nx) _) I2 := s2
  cases e1 : nam (sgn m f) (sgn m f a.1).nx with
  | error e =>
    rw [e1] at s2
    have s2 : RS m f pg 0 (.error e) I2 := s2
    have u : we1 (sgn m f) a.2.1 (sgn m f a.1).nx a.2.2 = .error e := by unfold we1; rw [e1]; rfl
    have bad : pj_D 4 39 [.ref 31, .int 3, .int (I2 32 5)] (zc n, I2, J) (kV n fun I4 J4 => Q none (zc n, I4, J4)) := f39e (by decide) s2 (kV_i (erQ e I2 F2 u s2))
    cases z : ff (fun k => decide (I2 22 k = v2)) a.2.1.nm 0 with
    | none => exact ⟨fun _ => bad, fun z => absurd rfl z⟩
    | some k =>
      have k7 := ff_some z
      refine ⟨fun z => absurd ((wo_none (fun d e => by cases e; omega)).mp z) (by simp), fun _ => ⟨vp_in_nI (by omega) (by decide), ?_⟩⟩
      rw [show wo (some k) = nI k from rfl]
      rw [nI_clamp (by omega)]
      refine ⟨fun _ => f65 (by decide) s2 (fun b e => by cases e) (fun I5 f5 s5 => kV_i (f44 (w := 6) (by decide) (by decide) s5 (fun I6 f6 s6 => kV_i ?_))), fun _ => bad⟩
      have t := tail k (.error e) (by omega) (fun x e => by cases e) u I6 (pj_fr_tr (pj_fr_tr F2 (eS_w f5)) f6) s6
      exact t
  | ok l =>
    rw [e1] at s2
    have s2 : RS m f pg 0 (.ok ((sgn m f a.1).nx, a.2.2)) I2 := s2
    have n1 := nam_ok e1
    have v2e := hv2 _ l rfl e1
    subst v2e
    have h5 : I2 32 5 = nI (sgn m f (sgn m f a.1).nx).st := s2.2.2.1.2.1
    rw [mnd_C hV.1 n1.2.2.2 (fun k hk => (F2 22 k rfl).trans (wmn k hk).1), h5]
    have bad : we1 (sgn m f) a.2.1 (sgn m f a.1).nx a.2.2 = .error (3, (sgn m f (sgn m f a.1).nx).st) → pj_D 4 39 [.ref 31, .int 3, .int (nI (sgn m f (sgn m f a.1).nx).st)] (zc n, I2, J) (kV n fun I9 J9 => Q none (zc n, I9, J9)) := fun u => f39 (a := 3) (by decide) (by decide) (by decide) s2 (fun I9 f9 s9 => kV_i (erQ _ I9 (pj_fr_tr F2 f9) u s9))
    have ue : we1 (sgn m f) a.2.1 (sgn m f a.1).nx a.2.2 = match mnd a.2.1 l with
      | none => .error (3, (sgn m f (sgn m f a.1).nx).st)
      | some k => if (a.2.1.mco k).isSome = true then .error (3, (sgn m f (sgn m f a.1).nx).st) else bd (wrd (sgn m f) 6 (sgn m f (sgn m f a.1).nx).nx) fun q => we2 (sgn m f) a.2.1 k q a.2.2 := by
      unfold we1
      rw [e1]
      rfl
    cases z1 : mnd a.2.1 l with
    | none =>
      rw [z1] at ue
      exact ⟨fun _ => bad ue, fun z => absurd rfl z⟩
    | some k =>
      rw [z1] at ue
      have k7 := ff_some z1
      refine ⟨fun z => absurd ((wo_none (fun d e => by cases e; omega)).mp z) (by simp), fun _ => ⟨vp_in_nI (by omega) (by decide), ?_⟩⟩
      rw [show wo (some k) = nI k from rfl]
      rw [nI_clamp (by omega), (F2 25 k rfl).trans (wmn k (by omega)).2.2.2, wo_none (fun d e => by have := hV.1.2.2.2.2.1 k d (by omega) e; omega)]
      cases z2 : a.2.1.mco k with
      | some d =>
        refine ⟨fun z => (by cases z), fun _ => bad (ue.trans ?_)⟩
        show (if (a.2.1.mco k).isSome = true then _ else _) = _
        rw [z2]
        rfl
      | none =>
        refine ⟨fun _ => f65 (by decide) s2 (fun b e => by cases e; exact Or.inl n1.1) (fun I5 f5 s5 => kV_i (f44 (w := 6) (by decide) (by decide) s5 (fun I6 f6 s6 => kV_i ?_))), fun z => absurd rfl z⟩
        have ue : we1 (sgn m f) a.2.1 (sgn m f a.1).nx a.2.2 = bd (wrd (sgn m f) 6 (sgn m f (sgn m f a.1).nx).nx) fun q => we2 (sgn m f) a.2.1 k q a.2.2 := ue.trans (by
          show (if (a.2.1.mco k).isSome = true then _ else _) = _
          rw [z2]
          rfl)
        have t := tail k _ (by omega) (fun x e => ?_) ?_ I6 (pj_fr_tr (pj_fr_tr F2 (eS_w f5)) f6) s6
        · exact t
        · obtain ⟨w, e3, e4⟩ := bd_ok e
          obtain ⟨w', e5, e6⟩ := bd_ok e4
          cases e3
          cases e6
          rfl
        · rw [ue]
          show _ = bd (bd (wrd (sgn m f) 6 (sgn m f (sgn m f a.1).nx).nx) fun q => .ok (q, a.2.2)) _
          rw [bd_bd]
          rfl
end PKt
