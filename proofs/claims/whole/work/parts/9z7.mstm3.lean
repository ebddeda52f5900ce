/-! the reference's statements: men, who wears what, programs, fire -/
def mlx (T : Nat → Sg) (s : Rs Sa) : Rs Sa := bd s fun a => if (T a.1).k = 4 then .error (1, (T a.1).pl) else .ok a
theorem PMp_aP {W : Wk} {B : Nat} {C c : List Tk} {I I' : Nat → Nat → Int32} {k : Nat} (h : PMp W B C I) (hf : ∀ x j, x = 286 ∨ x = 287 → j ≠ 3 * B + k → I' x j = I x j) (e1 : I' 286 (3 * B + k) = nI C.length) (e2 : I' 287 (3 * B + k) = nI (C ++ c).length) : PMp (W.aP k c) B (C ++ c) I' := by
  intro p hp
  show match upd1 W.pr k (some c) p with
    | none => I' 286 (3 * B + p) = -1
    | some ts => ∃ a b, C ++ c = a ++ (ts ++ b) ∧ I' 286 (3 * B + p) = nI a.length ∧ I' 287 (3 * B + p) = nI (a.length + ts.length)
  by_cases z : p = k
  · subst z
    rw [upd1_e]
    exact ⟨C, [], by rw [List.append_nil], e1, by rw [e2, List.length_append]⟩
  · rw [upd1_n z]
    have := h p hp
    cases e : W.pr p with
    | none =>
      rw [e] at this
      exact (hf _ _ (Or.inl rfl) (by omega)).trans this
    | some ts =>
      rw [e] at this
      obtain ⟨a, b, h1, h2, h3⟩ := this
      exact ⟨a, b ++ c, by rw [h1]; simp only [List.append_assoc], (hf _ _ (Or.inl rfl) (by omega)).trans h2, (hf _ _ (Or.inr rfl) (by omega)).trans h3⟩
section PMp
variable {n h : Nat} {Q : pj_K} {I : Nat → Nat → Int32} {J : Nat → Nat → Int64} {m : Nat} {f : Nat → Nat} {B : Nat}
/-- manning -/
theorem m180 (hh : 5 ≤ h) (hB2 : B < 2) {a : Sa} (hk : KQ m f B (.ok a) I J) (hV : SV a) (ho : own (sgn m f a.1) = some 3) (q : ∀ I' J', FM B I I' → FJ B J J' → KQ m f B (maS (sgn m f) a) I' J' → Q none (zc n, I', J')) : pj_D h 180 [.ref 276] (zc n, I, J) Q := by
  obtain ⟨hs, hB, hc⟩ := hk
  have hs : MS m f (.ok a.1) I J := hs
  obtain ⟨hw, h28, hMC⟩ := hc a rfl
  have hw' := hw
  obtain ⟨⟨h8, h7, -, h12, h13, wcs⟩, pc, w15, wcn, wmn⟩ := hw'
  have k0 : (sgn m f a.1).k ≠ 0 := by rw [own_k ho]; decide
  have vB : vp_in (nI B) 2 := vp_in_nI hB2 (by decide)
  refine pj_ent (g := 4) hh (t := mt_180) rfl rfl (v180_0 (pj_D_le 4) I J ?_)
  rw [hB, nI_clamp (by omega), h13]
  refine ⟨vB, ?_⟩
  have e8 : (nI a.2.1.nm = 7) ↔ a.2.1.nm = 7 := nI_eq (b := 7) (by omega) (by decide)
  rw [e8]
  refine ⟨fun c8 => ?_, fun c8 => ?_⟩
  · refine m172 (x := false) (by decide) hs k0 (fun z => by cases z) (fun _ I1 J1 f1 j1 s1 => kI_i ⟨fun _ => ?_, fun z => absurd z (by decide)⟩)
    rw [(f1 276 29 rfl).trans hB, nI_clamp (by omega), (f1 281 B rfl).trans h13]
    have li : (7 : Int32) * nI B + nI a.2.1.nm = nI (7 * B + a.2.1.nm) := li_7 B a.2.1.nm
    rw [li, nI_clamp (by omega)]
    have vi : vp_in (nI (7 * B + a.2.1.nm)) 14 := vp_in_nI (by omega) (by decide)
    refine ⟨vB, ?_⟩
    refine m173 (by decide) (W := a.2.1) s1 ((f1 276 29 rfl).trans hB) hB2 ((f1 278 B rfl).trans h12) h8 ((f1 281 B rfl).trans h13) h7 (fun k hk => (j1 290 _ rfl).trans (wcn k hk)) (fun k hk => (j1 291 _ rfl).trans (wmn k hk).1) hV.1 (fun I2 J2 v2 f2 j2 s2 hv2 => kL_i ⟨vi, ?_⟩)
    refine m177 (i := 1) (by decide) (by decide) nm1 (MS_J (by decide) s2) (fun I3 J3 f3 j3 s3 => kV_i ?_)
    refine m178 (a := 1) (b := 99) (by decide) (by decide) (by decide) s3 (fun I4 J4 v4 f4 j4 s4 hv4 => kI_i ⟨vi, ?_⟩)
    refine m177 (i := 4) (by decide) (by decide) nm4 (MS_I (by decide) s4) (fun I5 J5 f5 j5 s5 => kV_i ?_)
    refine m178 (a := 0) (b := 99) (by decide) (by decide) (by decide) s5 (fun I6 J6 v6 f6 j6 s6 hv6 => kI_i ⟨vi, vi, ?_⟩)
    have G2 : pj_fr (maJ B a.2.1.nm) J (pj_u J2 291 (7 * B + a.2.1.nm) v2) := pj_fr_u (pj_fr_tr (maJ_j j1) (maJ_j j2)) (by unfold maJ; rw [show (7 * B + a.2.1.nm == 7 * B + a.2.1.nm) = true from beq_self_eq_true _]; rfl)
    have G6 : pj_fr (maJ B a.2.1.nm) J J6 := pj_fr_tr (pj_fr_tr (pj_fr_tr (pj_fr_tr G2 (maJ_j j3)) (maJ_j j4)) (maJ_j j5)) (maJ_j j6)
    have ck : ∀ c, c = 282 ∨ c = 283 ∨ c = 284 → maM B a.2.1.nm c (7 * B + a.2.1.nm) = true := fun c hc => by
      unfold maM
      rw [show (7 * B + a.2.1.nm == 7 * B + a.2.1.nm) = true from beq_self_eq_true _]
      rcases hc with rfl | rfl | rfl <;> rfl
    have F4 : pj_fr (maM B a.2.1.nm) I (pj_u I4 282 (7 * B + a.2.1.nm) v4) := pj_fr_u (pj_fr_tr (pj_fr_tr (pj_fr_tr (maM_x f1) (maM_x f2)) (maM_x f3)) (maM_x f4)) (ck 282 (by decide))
    have F6 : pj_fr (maM B a.2.1.nm) I (pj_u (pj_u I6 283 (7 * B + a.2.1.nm) v6) 284 (7 * B + a.2.1.nm) (-1)) := pj_fr_u (pj_fr_u (pj_fr_tr (pj_fr_tr F4 (maM_x f5)) (maM_x f6)) (ck 283 (by decide))) (ck 284 (by decide))
    have e29 : I6 276 29 = nI B := by
      rw [f6 276 29 rfl, f5 276 29 rfl, pj_u_n (by decide), f4 276 29 rfl, f3 276 29 rfl, f2 276 29 rfl, f1 276 29 rfl]; exact hB
    have e78 : I6 281 B = nI a.2.1.nm := by
      rw [f6 281 B rfl, f5 281 B rfl, pj_u_n (by decide), f4 281 B rfl, f3 281 B rfl, f2 281 B rfl, f1 281 B rfl]; exact h13
    have eq : rsM (maS (sgn m f) a) = bd (bd (bd (bd (bd (frs (sgn m f) a.2.1 (sgn m f a.1).nx) fun l => .ok l.2) (wrd (sgn m f) 1)) fun p => bd (num (sgn m f) 1 99 p) fun v => .ok v.2) (wrd (sgn m f) 4)) fun p => bd (num (sgn m f) 0 99 p) fun v => .ok v.2 := by
      unfold maS rsM
      rw [if_neg c8]
      simp only [bd_bd, bd_o]
    rw [e29, nI_clamp (by omega), e78, nI_1]
    refine ⟨fun z => ?_, fun z => ⟨vB, vB, ?_⟩⟩
    · have s7 := s6
      rw [← eq] at s7
      refine q _ J6 (maM_F (by omega) F6) (maJ_F (by omega) G6) ?_
      cases er : maS (sgn m f) a with
      | ok b =>
        rw [er] at s7
        exact absurd s7.2.1 z
      | error e =>
        rw [er] at s7
        exact KQ_er (MS_I (by decide) (MS_I (by decide) s7)) ((pj_u_n (by decide)).trans ((pj_u_n (by decide)).trans e29))
    · have F7 : pj_fr (maM B a.2.1.nm) I (pj_u (pj_u (pj_u I6 283 (7 * B + a.2.1.nm) v6) 284 (7 * B + a.2.1.nm) (-1)) 281 B (nI (a.2.1.nm + 1))) := pj_fr_u F6 (by unfold maM; rw [show (B == B) = true from beq_self_eq_true _]; simp)
      refine q _ J6 (maM_F (by omega) F7) (maJ_F (by omega) G6) ⟨?_, ?_, fun b eb => ?_⟩
      · rw [eq]
        exact MS_I (by decide) (MS_I (by decide) (MS_I (by decide) s6))
      · rw [pj_u_n (by decide), pj_u_n (by decide), pj_u_n (by decide)]; exact e29
      · unfold maS at eb
        rw [if_neg c8] at eb
        obtain ⟨l, e1, eb⟩ := bd_ok eb
        obtain ⟨q1, e2, eb⟩ := bd_ok eb
        obtain ⟨v, e3, eb⟩ := bd_ok eb
        obtain ⟨q2, e4, eb⟩ := bd_ok eb
        obtain ⟨u, e5, eb⟩ := bd_ok eb
        cases eb
        have x2 := hv2 l e1
        have x4 := hv4 q1 v (by simp only [bd_o, e1, e2]) e3
        have x6 := hv6 q2 u (by simp only [bd_o, e1, e2, e3, e4]) e5
        refine ⟨MWp_aM hw (by omega) F7 G6 pj_u_e ?_ ?_ ?_ ?_, (F7 276 28 rfl).trans h28, MC_fr (fun j _ _ => ⟨F7 288 j rfl, F7 289 j rfl⟩) hMC⟩
        · rw [j6 291 _ rfl, j5 291 _ rfl, j4 291 _ rfl, j3 291 _ rfl, pj_u_e, x2]
        · rw [pj_u_n (by decide), pj_u_n (by decide), pj_u_n (by decide), f6 282 _ rfl, f5 282 _ rfl, pj_u_e, x4]
        · rw [pj_u_n (by decide), pj_u_n (by decide), pj_u_e, x6]
        · rw [pj_u_n (by decide), pj_u_e]
  · have u : maS (sgn m f) a = .error (6, (sgn m f a.1).st) := if_pos c8
    refine m172 (x := true) (by decide) hs k0 (fun _ I1 f1 s1 => kI_i ⟨fun z => absurd rfl z, fun _ => q I1 J (FM_x f1) FJ_rf ?_⟩) (fun z => by cases z)
    rw [u]
    exact KQ_er s1 ((f1 276 29 rfl).trans hB)
/-- firing -/
theorem m196 (hh : 4 ≤ h) (hB2 : B < 2) {a : Sa} (hk : KQ m f B (.ok a) I J) (ho : own (sgn m f a.1) = some 10) (q : ∀ I' J', FM B I I' → FJ B J J' → KQ m f B (fiS (sgn m f) a) I' J' → Q none (zc n, I', J')) : pj_D h 196 [.ref 276] (zc n, I, J) Q := by
  obtain ⟨hs, hB, hc⟩ := hk
  have hs : MS m f (.ok a.1) I J := hs
  obtain ⟨hw, h28, hMC⟩ := hc a rfl
  have k0 : (sgn m f a.1).k ≠ 0 := by rw [own_k ho]; decide
  refine pj_ent (g := 3) hh (t := mt_196) rfl rfl (v196_0 (pj_D_le 3) I J ?_)
  refine m172 (x := false) (by decide) hs k0 (fun z => by cases z) (fun _ I1 J1 f1 j1 s1 => kI_i ⟨fun _ => ?_, fun z => absurd z (by decide)⟩)
  refine m178 (a := 0) (b := 100) (by decide) (by decide) (by decide) s1 (fun I2 J2 v2 f2 j2 s2 hv2 => kI_i ?_)
  have e29 : I2 276 29 = nI B := (f2 276 29 rfl).trans ((f1 276 29 rfl).trans hB)
  have F2 := xtr f1 f2
  have G2 := pj_fr_tr j1 j2
  have eq : rsM (fiS (sgn m f) a) = bd (.ok (sgn m f a.1).nx) fun p => bd (num (sgn m f) 0 100 p) fun v => .ok v.2 := by
    simp only [rsM, fiS, bd_bd, bd_o]
  rw [e29, nI_clamp (by omega)]
  refine ⟨fun z => ?_, fun z => ⟨vp_in_nI hB2 (by decide), ?_⟩⟩
  · have s7 := s2
    rw [← eq] at s7
    refine q I2 J2 (FM_x F2) (FJ_j G2) ?_
    cases er : fiS (sgn m f) a with
    | ok b =>
      rw [er] at s7
      exact absurd s7.2.1 z
    | error e =>
      rw [er] at s7
      exact KQ_er s7 e29
  · refine q _ J2 (FM_u (FM_x F2) (fun z => z.2.1 (by decide) rfl)) (FJ_j G2) ⟨?_, ?_, fun b eb => ?_⟩
    · rw [eq]
      exact MS_I (by decide) s2
    · rw [pj_u_n (by decide)]; exact e29
    · obtain ⟨v, e1, eb⟩ := bd_ok eb
      cases eb
      have x2 := hv2 _ v rfl e1
      have w0 := MWp_x F2 G2 hw
      obtain ⟨⟨g8, g7, gB, g12, g13, gcs⟩, gpc, g15, gcn, gmn⟩ := w0
      exact ⟨⟨⟨g8, g7, gB, (pj_u_n (by decide)).trans g12, (pj_u_n (by decide)).trans g13, fun j hj => ⟨(pj_u_n (by decide)).trans (gcs j hj).1, (pj_u_n (by decide)).trans (gcs j hj).2⟩⟩, PMp_fr (fun c j hc => pj_u_n (by omega)) gpc, pj_u_e.trans x2, gcn, fun j hj => ⟨(gmn j hj).1, (pj_u_n (by decide)).trans (gmn j hj).2.1, (pj_u_n (by decide)).trans (gmn j hj).2.2.1, (pj_u_n (by decide)).trans (gmn j hj).2.2.2⟩⟩, (pj_u_n (by decide)).trans ((F2 276 28 rfl).trans h28), MC_fr (fun j _ _ => ⟨(pj_u_n (by decide)).trans (F2 288 j rfl), (pj_u_n (by decide)).trans (F2 289 j rfl)⟩) hMC⟩
/-- reading -/
theorem m184 (hh : 6 ≤ h) (hB2 : B < 2) {a : Sa} {k : Nat} (hk3 : k < 3) (hk : KQ m f B (.ok a) I J) (hV : SV a) (ho : own (sgn m f a.1) = some (7 + k)) (q : ∀ I' J', FM B I I' → FJ B J J' → KQ m f B (mlx (sgn m f) (prS (sgn m f) k a)) I' J' → Q none (zc n, I', J')) : pj_D h 184 [.ref 276, .int (nI k)] (zc n, I, J) Q := by
  obtain ⟨hs, hB, hc⟩ := hk
  have hs : MS m f (.ok a.1) I J := hs
  obtain ⟨hw, h28, hMC⟩ := hc a rfl
  have hw' := hw
  obtain ⟨⟨h8, h7, -, h12, h13, wcs⟩, pc, w15, wcn, wmn⟩ := hw'
  have n0 := wo_kn ho
  have k0 : (sgn m f a.1).k ≠ 0 := by rw [own_k ho]; decide
  have vi : vp_in (nI (3 * B + k)) 6 := vp_in_nI (by omega) (by decide)
  have li : (3 : Int32) * nI B + nI k = nI (3 * B + k) := by rw [li_3, nI_add]
  refine pj_ent (g := 5) hh (t := mt_184) rfl rfl (v184_0 (pj_D_le 5) I J _ ?_)
  rw [hB, li, nI_clamp (by omega)]
  refine ⟨vi, ?_⟩
  have pk := pc k hk3
  cases e0 : a.2.1.pr k with
  | some ts =>
    rw [e0] at pk
    obtain ⟨x, y, p1, p2, p3⟩ := pk
    have u : mlx (sgn m f) (prS (sgn m f) k a) = .error (6, (sgn m f a.1).st) := by unfold prS; rw [e0]; rfl
    have hl : a.2.2.length ≤ 1600 := by have := hV.2.1; have := hs.2.2.2.1; have := hs.1.1; omega
    have le : x.length + ts.length ≤ a.2.2.length := by rw [p1]; simp only [List.length_append]; omega
    have ne : ¬ I 286 (3 * B + k) = -1 := by
      rw [p2]
      intro z
      have := nI_pos (n := x.length) (by omega)
      rw [z] at this
      exact this (by decide)
    refine ⟨fun z => absurd z ne, fun _ => m172 (x := true) (by decide) hs k0 (fun _ I1 f1 s1 => kI_i ⟨fun z => absurd rfl z, fun _ => q I1 J (FM_x f1) FJ_rf ?_⟩) (fun z => by cases z)⟩
    rw [u]
    exact KQ_er s1 ((f1 276 29 rfl).trans hB)
  | none =>
    rw [e0] at pk
    have pk : I 286 (3 * B + k) = -1 := pk
    have u : prS (sgn m f) k a = bd (prX (sgn m f) k (sgn m f a.1).nx) fun r => .ok (r.2, a.2.1.aP k r.1, a.2.2 ++ r.1) := by unfold prS; rw [e0]; rfl
    refine ⟨fun _ => m172 (x := false) (by decide) hs k0 (fun z => by cases z) (fun _ I1 J1 f1 j1 s1 => kI_i ⟨fun _ => ⟨vi, ?_⟩, fun z => absurd z (by decide)⟩), fun z => absurd pk z⟩
    have e28 : I1 276 28 = nI a.2.2.length := (f1 276 28 rfl).trans h28
    rw [e28]
    have s2 : MS m f (.ok (sgn m f a.1).nx) (pj_u (pj_u I1 276 30 (nI k)) 286 (3 * B + k) (nI a.2.2.length)) J1 := MS_I (by decide) (MS_u (by decide) (fun _ => by decide) s1)
    have e29 : (pj_u (pj_u I1 276 30 (nI k)) 286 (3 * B + k) (nI a.2.2.length)) 276 29 = nI B := by rw [pj_u_n (by decide), pj_u_j (by decide)]; exact (f1 276 29 rfl).trans hB
    have e30 : (pj_u (pj_u I1 276 30 (nI k)) 286 (3 * B + k) (nI a.2.2.length)) 276 30 = nI k := by rw [pj_u_n (by decide), pj_u_e]
    have e28' : (pj_u (pj_u I1 276 30 (nI k)) 286 (3 * B + k) (nI a.2.2.length)) 276 28 = nI a.2.2.length := by rw [pj_u_n (by decide), pj_u_j (by decide)]; exact e28
    have M2 : MC (1600 * B) a.2.2 (pj_u (pj_u I1 276 30 (nI k)) 286 (3 * B + k) (nI a.2.2.length)) := MC_fr (fun j _ _ => ⟨by rw [pj_u_n (by decide), pj_u_n (by decide)]; exact f1 288 j rfl, by rw [pj_u_n (by decide), pj_u_n (by decide)]; exact f1 289 j rfl⟩) hMC
    have F2 : FM B I (pj_u (pj_u I1 276 30 (nI k)) 286 (3 * B + k) (nI a.2.2.length)) := FM_u (FM_u (FM_x f1) (fun z => (z.1 rfl).2.2.2.2.2.2.2.2.1 rfl)) (fun z => by have := z.2.2.2.2.1 (by decide); omega)
    have hle : a.2.2.length ≤ (sgn m f a.1).nx := by have := hV.2.1; omega
    have done : ∀ s I3 J3, s = (bd (prX (sgn m f) k (sgn m f a.1).nx) fun r => lxs (sgn m f) (.ok r.2)) → pj_fr (gM B) (pj_u (pj_u I1 276 30 (nI k)) 286 (3 * B + k) (nI a.2.2.length)) I3 → pj_fr jM J1 J3 → MS m f s I3 J3 → (∀ c p', prX (sgn m f) k (sgn m f a.1).nx = .ok (c, p') → s = .ok p' → I3 276 28 = nI (a.2.2 ++ c).length ∧ MC (1600 * B) (a.2.2 ++ c) I3) → vp_in (nI (3 * B + k)) 6 ∧ Q none (zc n, pj_u I3 287 (3 * B + k) (I3 276 28), J3) := fun s I3 J3 es f3 j3 s3 hc3 => by
      have eq : rsM (mlx (sgn m f) (prS (sgn m f) k a)) = s := by
        rw [es, u]
        simp only [rsM, mlx, lxs, bd_bd, bd_o]
        congr 1
        funext r
        by_cases c4 : (sgn m f r.2).k = 4
        · rw [if_pos c4, if_pos c4]; rfl
        · rw [if_neg c4, if_neg c4]; rfl
      refine ⟨vi, q _ J3 (FM_u (FM_tr F2 (FM_g f3)) (fun z => by have := z.2.2.2.2.1 (by decide); omega)) (FJ_tr (FJ_j j1) (FJ_j j3)) ⟨?_, ?_, fun b eb => ?_⟩⟩
      · rw [eq]
        exact MS_I (by decide) s3
      · rw [pj_u_n (by decide), f3 276 29 rfl]; exact e29
      · obtain ⟨c, e1, eb⟩ := bd_ok eb
        rw [u] at e1
        obtain ⟨r, er, e1⟩ := bd_ok e1
        cases e1
        by_cases c4 : (sgn m f r.2).k = 4
        · have eb := (if_pos c4).symm.trans eb
          cases eb
        · have eb := (if_neg c4).symm.trans eb
          cases eb
          have h3 := hc3 r.1 r.2 er (by rw [es, er]; exact if_neg c4)
          have F : ∀ c j, 278 ≤ c → c ≤ 285 → (pj_u I3 287 (3 * B + k) (I3 276 28)) c j = I c j := fun c j h1 h2 => by
            rw [pj_u_n (by omega), f3 c j (by
              unfold gM
              simp only [Bool.or_eq_false_iff, Bool.and_eq_false_iff, beq_eq_false_iff_ne, ble_f, blt_f]
              omega), pj_u_n (by omega), pj_u_n (by omega)]
            exact f1 c j (xM_f (by omega))
          have G : ∀ c j, 290 ≤ c → c ≤ 291 → J3 c j = J c j := fun c j h1 h2 => by
            have z : jM c j = false := by unfold jM; rw [beq_eq_false_iff_ne.mpr (show c ≠ 276 by omega)]; rfl
            rw [j3 c j z, j1 c j z]
          refine ⟨⟨⟨h8, h7, hB2, (F _ _ (by decide) (by decide)).trans h12, (F _ _ (by decide) (by decide)).trans h13, fun j hj => ⟨(F _ _ (by decide) (by decide)).trans (wcs j hj).1, (F _ _ (by decide) (by decide)).trans (wcs j hj).2⟩⟩, ?_, (F _ _ (by decide) (by decide)).trans w15, fun j hj => (G _ _ (by decide) (by decide)).trans (wcn j hj), fun j hj => ⟨(G _ _ (by decide) (by decide)).trans (wmn j hj).1, (F _ _ (by decide) (by decide)).trans (wmn j hj).2.1, (F _ _ (by decide) (by decide)).trans (wmn j hj).2.2.1, (F _ _ (by decide) (by decide)).trans (wmn j hj).2.2.2⟩⟩, ?_, ?_⟩
          · refine PMp_aP (C := a.2.2) (c := r.1) (I := I) pc (fun x j hx hj => ?_) ?_ ?_
            · rcases hx with rfl | rfl
              · rw [pj_u_n (by decide), f3 286 j rfl, pj_u_j hj, pj_u_n (by decide)]; exact f1 286 j rfl
              · rw [pj_u_j hj, f3 287 j rfl, pj_u_n (by decide), pj_u_n (by decide)]; exact f1 287 j rfl
            · rw [pj_u_n (by decide), f3 286 _ rfl, pj_u_e]
            · rw [pj_u_e]; exact h3.1
          · rw [pj_u_n (by decide)]; exact h3.1
          · exact MC_fr (fun j _ _ => ⟨by rw [pj_u_n (by decide)], by rw [pj_u_n (by decide)]⟩) h3.2
    by_cases c2 : k = 2
    · refine ⟨fun z => absurd (by rw [c2]; rfl) z, fun _ => ?_⟩
      have t := m185 (n := n) (h := 5) (Q := kV n fun I3 J3 => (vp_in (nI (3 * B + k)) 6 ∧ Q none (zc n, pj_u I3 287 (3 * B + k) (I3 276 28), J3))) (by decide) hk3 s2 e29 hB2 e30 e28' M2 hle (fun s I3 J3 es f3 j3 s3 hc3 => kV_i (done s I3 J3 es f3 j3 s3 hc3))
      rw [decide_eq_true c2] at t
      exact t
    · refine ⟨fun _ => ?_, fun z => absurd ((nI_eq (b := 2) (by omega) (by decide)).mp z) c2⟩
      have t := m185 (n := n) (h := 5) (Q := kV n fun I3 J3 => (vp_in (nI (3 * B + k)) 6 ∧ Q none (zc n, pj_u I3 287 (3 * B + k) (I3 276 28), J3))) (by decide) hk3 s2 e29 hB2 e30 e28' M2 hle (fun s I3 J3 es f3 j3 s3 hc3 => kV_i (done s I3 J3 es f3 j3 s3 hc3))
      rw [decide_eq_false c2] at t
      exact t
end PMp
