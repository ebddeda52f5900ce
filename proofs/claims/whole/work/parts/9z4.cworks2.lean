/-! the class's works: what it begins with -/
def bgL (W : Wk) : Ly := (0, (fun k => if (fwr W k).isSome = true then 1 else 0), (fun _ => false), W.msz, W.mag, W.mco, (fun _ => 0), (fun _ => true))
theorem LV_bg {W : Wk} (h : WV W) : LV W (bgL W) := by
  obtain ⟨a1, a2, a3, a4, a5, a6⟩ := h
  refine ⟨Nat.zero_le _, fun k _ => ?_, fun k hk => ⟨(a4 k hk).1, (a4 k hk).2.1, (a4 k hk).2.2.1, Nat.zero_le _⟩, fun k c hk e => ⟨a5 k c hk e, rfl, rfl⟩, a6⟩
  show (if (fwr W k).isSome = true then 1 else 0) ≤ 99
  split <;> decide
section PBg
variable {n h : Nat} {Q : pj_K} {I : Nat → Nat → Int32} {J : Nat → Nat → Int64} {W : Wk}
theorem fwr_5 {c : Nat} (h8 : W.nc ≤ 8) (hV : WV W) (hc : c < 2 ^ 31) (hw : ∀ k, k < W.nm → I 12 k = wo (W.mco k)) : ff (fun k => decide (I 12 k = nI c)) W.nm 0 = fwr W c := ff_cong (fun j _ hj => by
  have hj : j < W.nm := by omega
  rw [hw j hj]
  exact decide_eq_decide.mpr (wo_eq (fun d e => by have := hV.2.2.2.2.1 j d hj e; omega) hc))
/-- State.begin -/
theorem s71 (hh : 2 ≤ h) (hW : CW W 5 I) (hV : WV W) (q : ∀ I', (∀ c j, c < 35 ∨ 42 < c → I' c j = I c j) → LC W 35 (bgL W) I' → I' 35 8 = 0 → Q none (zc n, I', J)) : pj_D h 71 [.ref 35, .ref 5] (zc n, I, J) Q := by
  obtain ⟨⟨h8, h7, h12, h13, -⟩, -, -, -, wm⟩ := hW
  refine pj_ent (g := 1) hh (t := mt_71) rfl rfl (v71_0 (pj_D_le 1) I J ?_)
  have l2 : ∀ r k, r + k = W.nm → ∀ I1, (∀ c j, c < 35 ∨ 42 < c → I1 c j = I c j) → I1 35 7 = 0 → I1 35 8 = 0 → (∀ j, j < W.nc → I1 36 j = nI ((bgL W).lin j) ∧ I1 37 j = 0) → (∀ j, j < k → I1 38 j = nI (W.msz j) ∧ I1 39 j = nI (W.mag j) ∧ I1 40 j = wo (W.mco j) ∧ I1 41 j = 0 ∧ I1 42 j = 1) → pj_R (pj_D 1) ta mc_71 false Q 55 [some (.ref 35), some (.ref 5), some (.int (nI k))] [] (zc n) I1 J 0 0 := by
    intro r
    induction r with
    | zero =>
      intro k hk I1 f1 e7 e8 c1 m1
      refine v71_55 (pj_D_le 1) I1 J _ ?_
      rw [f1 5 13 (by decide), h13]
      refine pk_le W.nm k (fun _ => q I1 f1 ⟨e7, fun j hj => c1 j hj, fun j hj => ?_⟩ e8) (fun c => by omega)
      exact m1 j (by omega)
    | succ r ih =>
      intro k hk I1 f1 e7 e8 c1 m1
      refine v71_55 (pj_D_le 1) I1 J _ ?_
      rw [f1 5 13 (by decide), h13, nI_clamp (by omega), nI_1]
      have vi : vp_in (nI k) 7 := vp_in_nI (by omega) (by decide)
      refine pk_le W.nm k (fun c => by omega) (fun c => ⟨vi, vi, vi, vi, vi, vi, vi, vi, ih (k + 1) (by omega) _ (fun c j hc => ?_) ?_ ?_ (fun j hj => ⟨?_, ?_⟩) (fun j hj => ?_)⟩)
      · rw [pj_u_n (by omega), pj_u_n (by omega), pj_u_n (by omega), pj_u_n (by omega), pj_u_n (by omega)]; exact f1 c j hc
      · rw [pj_u_n (by decide), pj_u_n (by decide), pj_u_n (by decide), pj_u_n (by decide), pj_u_n (by decide)]; exact e7
      · rw [pj_u_n (by decide), pj_u_n (by decide), pj_u_n (by decide), pj_u_n (by decide), pj_u_n (by decide)]; exact e8
      · rw [pj_u_n (by decide), pj_u_n (by decide), pj_u_n (by decide), pj_u_n (by decide), pj_u_n (by decide)]; exact (c1 j hj).1
      · rw [pj_u_n (by decide), pj_u_n (by decide), pj_u_n (by decide), pj_u_n (by decide), pj_u_n (by decide)]; exact (c1 j hj).2
      · by_cases e : j = k
        · subst e
          have w := wm j (by omega)
          refine ⟨?_, ?_, ?_, ?_, ?_⟩
          · rw [pj_u_n (by decide), pj_u_n (by decide), pj_u_n (by decide), pj_u_n (by decide), pj_u_e, f1 10 j (by decide)]; exact w.2.1
          · rw [pj_u_n (by decide), pj_u_n (by decide), pj_u_n (by decide), pj_u_e, f1 11 j (by decide)]; exact w.2.2.1
          · rw [pj_u_n (by decide), pj_u_n (by decide), pj_u_e, f1 12 j (by decide)]; exact w.2.2.2
          · rw [pj_u_n (by decide), pj_u_e]
          · rw [pj_u_e]; decide
        · have t := m1 j (by omega)
          refine ⟨?_, ?_, ?_, ?_, ?_⟩
          · rw [pj_u_n (by decide), pj_u_n (by decide), pj_u_n (by decide), pj_u_n (by decide), pj_u_j e]; exact t.1
          · rw [pj_u_n (by decide), pj_u_n (by decide), pj_u_n (by decide), pj_u_j e, pj_u_n (by decide)]; exact t.2.1
          · rw [pj_u_n (by decide), pj_u_n (by decide), pj_u_j e, pj_u_n (by decide), pj_u_n (by decide)]; exact t.2.2.1
          · rw [pj_u_n (by decide), pj_u_j e, pj_u_n (by decide), pj_u_n (by decide), pj_u_n (by decide)]; exact t.2.2.2.1
          · rw [pj_u_j e, pj_u_n (by decide), pj_u_n (by decide), pj_u_n (by decide), pj_u_n (by decide)]; exact t.2.2.2.2
  have l1 : ∀ r k, r + k = W.nc → ∀ I1, (∀ c j, c < 35 ∨ 42 < c → I1 c j = I c j) → I1 35 7 = 0 → I1 35 8 = 0 → (∀ j, j < k → I1 36 j = nI ((bgL W).lin j) ∧ I1 37 j = 0) → pj_R (pj_D 1) ta mc_71 false Q 12 [some (.ref 35), some (.ref 5), some (.int (nI k))] [] (zc n) I1 J 0 0 := by
    intro r
    induction r with
    | zero =>
      intro k hk I1 f1 e7 e8 c1
      refine v71_12 (pj_D_le 1) I1 J _ ?_
      rw [f1 5 12 (by decide), h12]
      exact pk_le W.nc k (fun _ => l2 W.nm 0 rfl I1 f1 e7 e8 (fun j hj => c1 j (by omega)) (fun j hj => absurd hj (Nat.not_lt_zero _))) (fun c => by omega)
    | succ r ih =>
      intro k hk I1 f1 e7 e8 c1
      refine v71_12 (pj_D_le 1) I1 J _ ?_
      rw [f1 5 12 (by decide), h12, nI_clamp (by omega), nI_1]
      have vi : vp_in (nI k) 8 := vp_in_nI (by omega) (by decide)
      refine pk_le W.nc k (fun c => by omega) (fun c => ⟨vi, ?_⟩)
      refine s99 (a := 5) (m := W.nm) (by decide) (by decide) (by rw [pj_u_n (by decide), f1 5 13 (by decide)]; exact h13) h7 (kI_i ?_)
      rw [show (5 : Nat) + 7 = 12 from rfl, fwr_5 h8 hV (by omega) (fun j hj => by rw [pj_u_n (by decide), f1 12 j (by decide)]; exact (wm j hj).2.2.2), wo_none (o := fwr W k) (fun c e => ff_b h7 (by decide) e)]
      have next : ∀ x : Int32, x = nI ((bgL W).lin k) → pj_R (pj_D 1) ta mc_71 false Q 12 [some (.ref 35), some (.ref 5), some (.int (nI (k + 1)))] [] (zc n) (pj_u (pj_u I1 37 k (0 &&& 1)) 36 k x) J 0 0 := fun x hx => by
        refine ih (k + 1) (by omega) _ (fun c j hc => ?_) ?_ ?_ (fun j hj => ?_)
        · rw [pj_u_n (by omega), pj_u_n (by omega)]; exact f1 c j hc
        · rw [pj_u_n (by decide), pj_u_n (by decide)]; exact e7
        · rw [pj_u_n (by decide), pj_u_n (by decide)]; exact e8
        · by_cases e : j = k
          · subst e
            exact ⟨by rw [pj_u_e]; exact hx, by rw [pj_u_n (by decide), pj_u_e]; decide⟩
          · have t := c1 j (by omega)
            exact ⟨by rw [pj_u_j e, pj_u_n (by decide)]; exact t.1, by rw [pj_u_n (by decide), pj_u_j e]; exact t.2⟩
      cases z : fwr W k with
      | none => exact ⟨fun y => absurd rfl y, fun _ => ⟨vi, next 0 (by show (0 : Int32) = nI (if (fwr W k).isSome = true then 1 else 0); rw [z]; rfl)⟩⟩
      | some j => exact ⟨fun _ => ⟨vi, next 1 (by show (1 : Int32) = nI (if (fwr W k).isSome = true then 1 else 0); rw [z]; rfl)⟩, fun y => by cases y⟩
  refine l1 W.nc 0 rfl _ (fun c j hc => ?_) ?_ pj_u_e (fun j hj => absurd hj (Nat.not_lt_zero _))
  · rw [pj_u_n (by omega), pj_u_n (by omega)]
  · rw [pj_u_j (by decide), pj_u_e]
end PBg
/-- what is told becomes the works -/
def Ab.wE (A : Ab) (e : Nat × Nat) : Ab := ((0, A.tp.2), A.W, A.L, A.kp, A.hs, upd1 A.rf 1 (A.rf 1 + 1), A.sd, (nI e.1, nI e.2), A.rw, A.pc)
def Ab.wO (A : Ab) (W : Wk) : Ab := ((0, A.tp.2), W, bgL W, (0, A.kp.2), (0, A.hs.2), A.rf, A.sd, (0, -1), (0, A.rw.2), A.pc)
def wksR (A : Ab) : Ab × Int32 := match stl (sgn A.tp.1 A.tp.2) 80 0 (0, W00, []) with
  | .error e => (A.wE e, -1)
  | .ok b => (A.wO b.2.2.1, nI b.1)
theorem AV_wks {A : Ab} (hA : AV A) : AV (wksR A).1 := by
  unfold wksR
  obtain ⟨a1, a2, a3, a4, a5, a6, a7, a8, a9, a10, a11, a12, a13, a14⟩ := hA
  cases e : stl (sgn A.tp.1 A.tp.2) 80 0 (0, W00, []) with
  | error x => exact ⟨a1, a2, a3, a4, a5, a6, a7, a8, a9, a10, a11, a12, a13, a14⟩
  | ok b =>
    have v := stl_v (a := (0, W00, [])) ⟨WV_0, Nat.le_refl _, Nat.zero_le _, Nat.zero_le _⟩ e
    exact ⟨v.1.1, v.1.2.2.1, v.1.2.2.2, LV_bg v.1.1, Nat.zero_le _, fun i hi => absurd hi (Nat.not_lt_zero _), Nat.zero_le _, fun i hi => absurd hi (Nat.not_lt_zero _), fun i j _ hj => absurd hj (Nat.not_lt_zero _), a10, Nat.zero_le _, fun i hi => absurd hi (Nat.not_lt_zero _), a13, a14⟩
/-- codes of a program, out of all codes -/
theorem CC_mid {c : Nat} {C a ts b : List Tk} {I : Nat → Nat → Int32} (h : CC c 0 C I) (e : C = a ++ (ts ++ b)) : CC c a.length ts I := by
  rw [e] at h
  have t := (CC_app.mp h).2
  rw [Nat.zero_add] at t
  exact (CC_app.mp t).1
theorem CC_cp {c d : Nat} {I I' : Nat → Nat → Int32} : ∀ {ts : List Tk} {k : Nat}, (∀ j, k ≤ j → j < k + ts.length → I' d j = I c j) → CC c k ts I → CC d k ts I'
  | [], _, _, _ => trivial
  | t :: r, k, h, hc => ⟨(h k (Nat.le_refl _) (by simp only [List.length_cons]; omega)).trans hc.1, CC_cp (fun j h1 h2 => h j (by omega) (by simp only [List.length_cons]; omega)) hc.2⟩
section PBw
variable {n h : Nat} {Q : pj_K} {I : Nat → Nat → Int32} {J : Nat → Nat → Int64} {A : Ab}
theorem s37z (hh : 1 ≤ h) (e : I 31 2 = 0) (q : Q (some (.int 0)) (zc n, I, J)) : pj_D h 37 [.ref 31] (zc n, I, J) Q := pj_ent (g := 0) hh (t := mt_37) rfl rfl (v37_0 (pj_D_le 0) I J (br_t e q))
theorem s37n (hh : 1 ≤ h) (e : ¬ I 31 2 = 0) (q : Q (some (.int 1)) (zc n, I, J)) : pj_D h 37 [.ref 31] (zc n, I, J) Q := pj_ent (g := 0) hh (t := mt_37) rfl rfl (v37_0 (pj_D_le 0) I J (br_f e q))
theorem s88 (hh : 1 ≤ h) (q : Q none (zc n, pj_u I 251 4 0, J)) : pj_D h 88 [.ref 251] (zc n, I, J) Q := pj_ent (g := 0) hh (t := mt_88) rfl rfl (v88_0 (pj_D_le 0) I J q)
/-- PegCoats.works -/
theorem c115 (hh : 73 ≤ h) (hA : AV A) (hI : InvC A I) (q : ∀ I', cF I I' → InvC (wksR A).1 I' → Q (some (.int (wksR A).2)) (zc n, I', J)) : pj_D h 115 [.ref 2] (zc n, I, J) Q := by
  refine pj_ent (g := 72) hh (t := mt_115) rfl rfl (v115_0 (pj_D_le 72) I J ?_)
  obtain ⟨i1, i2, i3, i4, i5, i6, i7, i8, i9, i10, i11⟩ := hI
  unfold wksR at q
  refine f36 (by decide) i1 i11 (fun I1 f1 uE uO => kV_i (s86 (by decide) (kV_i ?_)))
  have g1 : ∀ c j, c < 18 ∨ 32 < c → I1 c j = I c j := fun c j hc => f1 c j (by
    unfold sC
    rw [Bool.and_eq_false_iff, ← Bool.not_eq_true, ← Bool.not_eq_true, Nat.ble_eq, Nat.ble_eq]
    omega)
  have g2 : ∀ c j, (c < 18 ∨ 32 < c) → c ≠ 3 → (pj_u I1 3 1 0) c j = I c j := fun c j h1 h2 => (pj_u_n h2).trans (g1 c j h1)
  cases e0 : stl (sgn A.tp.1 A.tp.2) 80 0 (0, W00, []) with
  | error e =>
    rw [e0] at q
    obtain ⟨pg, s1⟩ := uE e e0
    have hn : ¬ (pj_u I1 3 1 0) 31 2 = 0 := by rw [pj_u_n (by decide)]; exact RE_n s1.2
    have q : ∀ I', cF I I' → InvC (A.wE e) I' → Q (some (.int (-1))) (zc n, I', J) := q
    refine s37n (by decide) hn (kI_i ⟨fun z => absurd z (by decide), fun _ => ?_⟩)
    refine s112 (k := 1) (by decide) (by decide) (kI_i (q _ (fun c j hc => ?_) ?_))
    · rw [pj_u_n (by omega)]; exact g2 c j (by omega) (by omega)
    · have g3 : ∀ c j, (c < 18 ∨ 32 < c) → c ≠ 3 → c ≠ 275 → (pj_u (pj_u I1 3 1 0) 275 1 (pj_u I1 3 1 0 275 1 + 1)) c j = I c j := fun c j h1 h2 h3 => (pj_u_n h3).trans (g2 c j h1 h2)
      refine ⟨⟨Nat.zero_le _, ?_, fun k hk => absurd hk (Nat.not_lt_zero _)⟩, CW_fr (fun c j h1 h2 => g3 c j (by omega) (by omega) (by omega)) i2, LC_fr (fun c j h1 h2 => g3 c j (by omega) (by omega) (by omega)) i3, ⟨i4.1, (g3 _ _ (by decide) (by decide) (by decide)).trans i4.2.1, fun i hi => ⟨(g3 _ _ (by decide) (by decide) (by decide)).trans (i4.2.2 i hi).1, (i4.2.2 i hi).2⟩⟩, hC_fr (fun c j hc => g3 c j (by omega) (by omega) (by omega)) i5, fun k hk => ?_, (g3 _ _ (by decide) (by decide) (by decide)).trans i7, ⟨?_, ?_⟩, ⟨(g3 _ _ (by decide) (by decide) (by decide)).trans i9.1, fun i hi => ⟨(g3 _ _ (by decide) (by decide) (by decide)).trans (i9.2 i hi).1, (g3 _ _ (by decide) (by decide) (by decide)).trans (i9.2 i hi).2.1, (g3 _ _ (by decide) (by decide) (by decide)).trans (i9.2 i hi).2.2⟩⟩, ⟨(g3 _ _ (by decide) (by decide) (by decide)).trans i10.1, fun i hi => (g3 _ _ (by decide) (by decide) (by decide)).trans (i10.2 i hi)⟩, fun k hk => (g3 _ _ (by decide) (by decide) (by decide)).trans (i11 k hk)⟩
      · rw [pj_u_n (by decide), pj_u_e]; rfl
      · show _ = upd1 A.rf 1 (A.rf 1 + 1) k
        by_cases e1 : k = 1
        · subst e1
          rw [pj_u_e, upd1_e, g2 _ _ (by decide) (by decide), i6 1 (by decide)]
        · rw [pj_u_j e1, upd1_n e1, g2 _ _ (by decide) (by decide), i6 k hk]
      · rw [pj_u_n (by decide), pj_u_n (by decide)]; exact s1.2.1
      · rw [pj_u_n (by decide), pj_u_n (by decide)]; exact s1.2.2.2.2
  | ok b =>
    obtain ⟨ct, p, W, C⟩ := b
    rw [e0] at q
    have k1 := uO ct (p, W, C) e0
    have v := (stl_v (a := (0, W00, [])) ⟨WV_0, Nat.le_refl _, Nat.zero_le _, Nat.zero_le _⟩ e0).1
    have hV : WV W := v.1
    obtain ⟨⟨pg, s1⟩, kb, hc⟩ := k1
    have s1 : RS A.tp.1 A.tp.2 pg 0 (.ok (p, C)) I1 := s1
    have w1 : CWp W C I1 := hc _ rfl
    obtain ⟨⟨h8, h7, h12, h13, wcs⟩, pc, w15, wcn, wmn⟩ := w1
    have e2 : I1 31 2 = 0 := s1.2.1
    have e3 : I1 31 3 = -1 := by
      obtain ⟨cd, -, -, z⟩ := s1.1.2.2.2
      exact z e2
    have e14 : I1 18 14 = nI C.length := s1.2.2.2.2.2.1
    have l14 : C.length ≤ 1600 := s1.2.2.2.2.2.2.1
    have cc : CC 26 0 C I1 := s1.2.2.2.2.2.2.2
    have q : ∀ I', cF I I' → InvC (A.wO W) I' → Q (some (.int (nI ct))) (zc n, I', J) := q
    refine s37z (by decide) ((pj_u_n (by decide)).trans e2) (kI_i ⟨fun _ => ?_, fun z => absurd rfl z⟩)
    refine s104 (by decide) ((pj_u_n (by decide)).trans e14) l14 (fun I4 a1 a2 a3 a4 a5 a6 => kV_i ?_)
    have u1 : ∀ c j, c ≠ 3 → (pj_u I1 3 1 0) c j = I1 c j := fun c j hc => pj_u_n hc
    have w4 : CW W 5 I4 := by
      refine ⟨⟨h8, h7, (a2 12 (by decide)).trans ((u1 _ _ (by decide)).trans h12), (a2 13 (by decide)).trans ((u1 _ _ (by decide)).trans h13), fun k hk => ⟨(a3 k (by omega)).2.1.trans ((u1 _ _ (by decide)).trans (wcs k hk).1), (a3 k (by omega)).2.2.trans ((u1 _ _ (by decide)).trans (wcs k hk).2)⟩⟩, fun p hp => ?_, (a2 15 (by decide)).trans ((u1 _ _ (by decide)).trans w15), fun k hk => (a3 k (by omega)).1.trans ((u1 _ _ (by decide)).trans (wcn k hk)), fun k hk => ⟨(a4 k (by omega)).1.trans ((u1 _ _ (by decide)).trans (wmn k hk).1), (a4 k (by omega)).2.1.trans ((u1 _ _ (by decide)).trans (wmn k hk).2.1), (a4 k (by omega)).2.2.1.trans ((u1 _ _ (by decide)).trans (wmn k hk).2.2.1), (a4 k (by omega)).2.2.2.trans ((u1 _ _ (by decide)).trans (wmn k hk).2.2.2)⟩⟩
      have t := pc p hp
      cases ep : W.pr p with
      | none =>
        rw [ep] at t
        exact ⟨(a6 p hp).1.trans ((u1 _ _ (by decide)).trans t.1), (a6 p hp).2.trans ((u1 _ _ (by decide)).trans t.2)⟩
      | some ts =>
        rw [ep] at t
        obtain ⟨x, y, t1, t2, t3⟩ := t
        have le : x.length + ts.length ≤ C.length := by rw [t1]; simp only [List.length_append]; omega
        exact ⟨x.length, (a6 p hp).1.trans ((u1 _ _ (by decide)).trans t2), (a6 p hp).2.trans ((u1 _ _ (by decide)).trans t3), by omega, CC_cp (fun j h1 h2 => (a5 j (by omega)).trans (u1 _ _ (by decide))) (CC_mid cc t1)⟩
    refine s71 (by decide) w4 hV (fun I5 b1 L5 b8 => kV_i (s9 (by decide) (kV_i ?_)))
    refine s88 (by decide) (kV_i ?_)
    have g5 : ∀ c j, (c < 5 ∨ (15 < c ∧ c < 35) ∨ 42 < c) → I5 c j = (pj_u I1 3 1 0) c j := fun c j hc => (b1 c j (by omega)).trans (a1 c j (by omega))
    have g6 : ∀ c j, (c < 5 ∨ (15 < c ∧ c < 35) ∨ 42 < c) → c ≠ 59 → c ≠ 251 → (pj_u (pj_u I5 59 1 0) 251 4 0) c j = (pj_u I1 3 1 0) c j := fun c j h1 h2 h3 => by rw [pj_u_n h3, pj_u_n h2]; exact g5 c j h1
    have g7 : ∀ c j, (c < 3 ∨ c = 4 ∨ c = 33 ∨ c = 34 ∨ 42 < c) → c ≠ 59 → c ≠ 251 → (pj_u (pj_u I5 59 1 0) 251 4 0) c j = I c j := fun c j h1 h2 h3 => (g6 c j (by omega) h2 h3).trans (g2 c j (by omega) (by omega))
    have e16 : (pj_u (pj_u I5 59 1 0) 251 4 0) 5 16 = nI ct := by
      rw [pj_u_n (by decide), pj_u_n (by decide), b1 _ _ (by decide), a2 16 (by decide), u1 _ _ (by decide)]
      exact kb.1
    rw [e16]
    obtain ⟨nx, c1, c2, c3, c4⟩ := i5
    refine q _ (fun c j hc => g7 c j (by omega) (by omega) (by omega)) ⟨⟨Nat.zero_le _, ?_, fun k hk => absurd hk (Nat.not_lt_zero _)⟩, CW_fr (fun c j h1 h2 => by rw [pj_u_n (by omega), pj_u_n (by omega)]; exact b1 c j (by omega)) w4, LC_fr (fun c j h1 h2 => by rw [pj_u_n (by omega), pj_u_n (by omega)]) L5, ⟨Nat.zero_le _, ?_, fun i hi => absurd hi (Nat.not_lt_zero _)⟩, ⟨nx, c1, ?_, ?_, fun i hi => absurd hi (Nat.not_lt_zero _)⟩, fun k hk => (g7 _ _ (by decide) (by decide) (by decide)).trans (i6 k hk), (g7 _ _ (by decide) (by decide) (by decide)).trans i7, ⟨?_, ?_⟩, ⟨pj_u_e, fun i hi => absurd hi (Nat.not_lt_zero _)⟩, ⟨(g7 _ _ (by decide) (by decide) (by decide)).trans i10.1, fun i hi => (g7 _ _ (by decide) (by decide) (by decide)).trans (i10.2 i hi)⟩, fun k hk => (g7 _ _ (by decide) (by decide) (by decide)).trans (i11 k hk)⟩
    · rw [g6 3 1 (by decide) (by decide) (by decide), pj_u_e]; rfl
    · rw [pj_u_n (by decide), pj_u_n (by decide)]; exact b8
    · rw [pj_u_n (by decide), pj_u_j (by decide), g5 _ _ (by decide), g2 _ _ (by decide) (by decide)]; exact c2
    · rw [pj_u_n (by decide), pj_u_e]; rfl
    · rw [g6 31 2 (by decide) (by decide) (by decide), u1 _ _ (by decide)]; exact e2
    · rw [g6 31 3 (by decide) (by decide) (by decide), u1 _ _ (by decide)]; exact e3
end PBw
