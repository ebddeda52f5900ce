/-! the class's reading: programs, a statement, all -/
theorem PCp_aP {W : Wk} {C c : List Tk} {I I' : Nat → Nat → Int32} {k : Nat} (h : PCp W C I) (hf : ∀ x j, x = 27 ∨ x = 28 → j ≠ k → I' x j = I x j) (e1 : I' 27 k = nI C.length) (e2 : I' 28 k = nI (C ++ c).length) : PCp (W.aP k c) (C ++ c) I' := by
  intro p hp
  show match upd1 W.pr k (some c) p with
    | none => I' 27 p = 0 ∧ I' 28 p = 0
    | some ts => ∃ a b, C ++ c = a ++ (ts ++ b) ∧ I' 27 p = nI a.length ∧ I' 28 p = nI (a.length + ts.length)
  by_cases z : p = k
  · subst z
    rw [upd1_e]
    exact ⟨C, [], by rw [List.append_nil], e1, by rw [e2, List.length_append]⟩
  · rw [upd1_n z]
    have := h p hp
    cases e : W.pr p with
    | none =>
      rw [e] at this
      exact ⟨(hf _ _ (Or.inl rfl) z).trans this.1, (hf _ _ (Or.inr rfl) z).trans this.2⟩
    | some ts =>
      rw [e] at this
      obtain ⟨a, b, h1, h2, h3⟩ := this
      exact ⟨a, b ++ c, by rw [h1]; simp only [List.append_assoc], (hf _ _ (Or.inl rfl) z).trans h2, (hf _ _ (Or.inr rfl) z).trans h3⟩
section PKu
variable {n h : Nat} {Q : pj_K} {I : Nat → Nat → Int32} {J : Nat → Nat → Int64} {m : Nat} {f : Nat → Nat} {ct : Nat}
/-- Reading.readProgram -/
theorem f48 (hh : 70 ≤ h) {a : Sa} {k : Nat} (hk3 : k < 3) (hk : KS m f ct (.ok a) I) (hV : SV a) (ho : own (sgn m f a.1) = some (7 + k)) (q : ∀ I', pj_fr sC I I' → KS m f ct (prS (sgn m f) k a) I' → Q none (zc n, I', J)) : pj_D h 48 [.ref 31, .int (nI k)] (zc n, I, J) Q := by
  obtain ⟨⟨pg, hs⟩, kb, hc⟩ := hk
  have hs : RS m f pg 0 (.ok (a.1, a.2.2)) I := hs
  have hcw := hc a rfl
  have hcw' := hcw
  obtain ⟨⟨h8, h7, h12, h13, wcs⟩, pc, w15, wcn, wmn⟩ := hcw'
  have hl : a.2.2.length ≤ 1600 := hs.2.2.2.2.2.2.1
  have n0 := wo_kn ho
  refine pj_ent (g := 69) hh (t := mt_48) rfl rfl (v48_0 (pj_D_le 69) I J _ ?_)
  have pk := pc k hk3
  cases e0 : a.2.1.pr k with
  | some ts =>
    rw [e0] at pk
    obtain ⟨x, y, p1, p2, p3⟩ := pk
    have le : x.length + ts.length ≤ a.2.2.length := by rw [p1]; simp only [List.length_append]; omega
    have ne : 0 < ts.length := by
      have := (hV.1.1 k ts hk3 e0).1
      cases ts with
      | nil => exact absurd rfl this
      | cons t r => exact Nat.succ_pos _
    have u : prS (sgn m f) k a = .error (6, (sgn m f a.1).st) := by unfold prS; rw [e0]; rfl
    refine s103 (a := 18) (by decide) (by decide) hk3 p2 p3 (by omega) (by omega) (kI_i ?_)
    rw [decide_eq_true (show x.length < x.length + ts.length by omega), hs.2.2.1.2.1]
    refine ⟨fun z => absurd z (by decide), fun _ => f39 (a := 6) (by decide) (by decide) (by decide) hs (fun I1 f1 s1 => kV_i (q I1 (sC_w f1) ?_))⟩
    rw [u]
    exact KS_er s1 (KB_e f1 kb)
  | none =>
    rw [e0] at pk
    have pk : I 27 k = 0 ∧ I 28 k = 0 := pk
    have u : prS (sgn m f) k a = bd (prX (sgn m f) k (sgn m f a.1).nx) fun r => .ok (r.2, a.2.1.aP k r.1, a.2.2 ++ r.1) := by unfold prS; rw [e0]; rfl
    have vi : vp_in (nI k) 3 := vp_in_nI hk3 (by decide)
    refine s103 (a := 18) (f := 0) (t := 0) (by decide) (by decide) hk3 pk.1 pk.2 (by decide) (by decide) (kI_i ⟨fun _ => ?_, fun z => absurd rfl z⟩)
    refine f65 (by decide) hs (fun b e => by cases e; exact Or.inl (own_k ho)) (fun I2 f2 s2 => kV_i ⟨vi, ?_⟩)
    have f2 := eS_w f2
    have s2 : RS m f pg 0 (.ok ((sgn m f a.1).nx, a.2.2)) I2 := s2
    have e14 : I2 18 14 = nI a.2.2.length := s2.2.2.2.2.2.1
    rw [nI_clamp (by omega), e14]
    have s3 : RS m f k 0 (.ok ((sgn m f a.1).nx, a.2.2)) (pj_u (pj_u I2 31 5 (nI k)) 27 k (nI a.2.2.length)) := RS_u rfl (RS_pg s2)
    have z0 : zl 0 (.ok ((sgn m f a.1).nx, a.2.2)) := zl_ok (by have := hV.2.1; omega)
    have done : ∀ I3, pj_fr eS (pj_u (pj_u I2 31 5 (nI k)) 27 k (nI a.2.2.length)) I3 → RS m f k 0 (stp (.ok ((sgn m f a.1).nx, a.2.2)) (prX (sgn m f) k)) I3 → vp_in (nI k) 3 ∧ Q none (zc n, pj_u I3 28 k (I3 18 14), J) := fun I3 f3 s3 => by
      have fs : pj_fr sC I I3 := pj_fr_tr (sC_u (sC_u (sC_w f2) (by decide) (by decide)) (by decide) (by decide)) (sC_w f3)
      refine ⟨vi, q _ (sC_u fs (by decide) (by decide)) ⟨⟨k, ?_⟩, ?_, fun b eb => ?_⟩⟩
      · rw [u]
        have t : rsZ (bd (prX (sgn m f) k (sgn m f a.1).nx) fun r => .ok (r.2, a.2.1.aP k r.1, a.2.2 ++ r.1)) = stp (.ok ((sgn m f a.1).nx, a.2.2)) (prX (sgn m f) k) := by
          simp only [rsZ, stp, bd_bd, bd_o]
        rw [t]
        exact RS_u rfl s3
      · exact KB_fr (fun j hj => by rw [pj_u_n (by decide)]) (KB_e f3 (KB_fr (fun j hj => by rw [pj_u_n (by decide), pj_u_n (by decide)]) (KB_e f2 kb)))
      · rw [u] at eb
        obtain ⟨r, er, eb⟩ := bd_ok eb
        cases eb
        have s4 : RS m f k 0 (bd (prX (sgn m f) k (sgn m f a.1).nx) _) I3 := s3
        rw [er] at s4
        have e3 : I3 18 14 = nI (a.2.2 ++ r.1).length := s4.2.2.2.2.2.1
        have w0 : CWp a.2.1 a.2.2 I2 := CWp_e f2 hcw
        obtain ⟨⟨g8, g7, g12, g13, gcs⟩, gpc, g15, gcn, gmn⟩ := w0
        have F : ∀ c j, c ≠ 26 → c ≠ 27 → c ≠ 28 → c ≠ 31 → c ≠ 32 → (c = 18 → j ≠ 14) → (pj_u I3 28 k (I3 18 14)) c j = I2 c j := fun c j h1 h2 h3 h4 h5 h6 => by
          rw [pj_u_n h3, f3 c j, pj_u_n h2, pj_u_n h4]
          by_cases z : c = 18
          · subst z
            unfold eS
            rw [beq_eq_false_iff_ne.mpr (h6 rfl)]
            rfl
          · exact eS_c ⟨h5, h1, h4, z⟩
        refine ⟨⟨g8, g7, (F 18 12 (by decide) (by decide) (by decide) (by decide) (by decide) (by decide)).trans g12, (F 18 13 (by decide) (by decide) (by decide) (by decide) (by decide) (by decide)).trans g13, fun j hj => ⟨(F 20 j (by decide) (by decide) (by decide) (by decide) (by decide) (fun z => absurd z (by decide))).trans (gcs j hj).1, (F 21 j (by decide) (by decide) (by decide) (by decide) (by decide) (fun z => absurd z (by decide))).trans (gcs j hj).2⟩⟩, ?_, (F 18 15 (by decide) (by decide) (by decide) (by decide) (by decide) (by decide)).trans g15, fun j hj => (F 19 j (by decide) (by decide) (by decide) (by decide) (by decide) (fun z => absurd z (by decide))).trans (gcn j hj), fun j hj => ⟨(F 22 j (by decide) (by decide) (by decide) (by decide) (by decide) (fun z => absurd z (by decide))).trans (gmn j hj).1, (F 23 j (by decide) (by decide) (by decide) (by decide) (by decide) (fun z => absurd z (by decide))).trans (gmn j hj).2.1, (F 24 j (by decide) (by decide) (by decide) (by decide) (by decide) (fun z => absurd z (by decide))).trans (gmn j hj).2.2.1, (F 25 j (by decide) (by decide) (by decide) (by decide) (by decide) (fun z => absurd z (by decide))).trans (gmn j hj).2.2.2⟩⟩
        refine PCp_aP gpc (fun x j hx hj => ?_) ?_ ?_
        · rcases hx with rfl | rfl
          · rw [pj_u_n (by decide), f3 27 j rfl, pj_u_j hj, pj_u_n (by decide)]
          · rw [pj_u_j hj, f3 28 j rfl, pj_u_n (by decide), pj_u_n (by decide)]
        · rw [pj_u_n (by decide), f3 27 k rfl, pj_u_e]
        · rw [pj_u_e, e3]
    have sp := spL (m := m) (f := f) hk3 7 0 (by decide)
    by_cases c2 : k = 2
    · refine ⟨fun z => absurd (by rw [c2]; rfl) z, fun _ => ?_⟩
      refine sp.2.1 n 69 _ _ J _ (by decide) s3 z0 (fun I3 f3 s4 => kV_i (done I3 f3 ?_))
      have ex : prX (sgn m f) k = (lev (sgn m f) k 7).2.1 := if_pos c2
      rw [ex]
      exact s4
    · refine ⟨fun _ => ?_, fun z => absurd ((nI_eq (b := 2) (by omega) (by decide)).mp z) c2⟩
      refine sp.1 n 69 _ _ J _ (by decide) s3 z0 (fun I3 f3 s4 => kV_i (done I3 f3 ?_))
      have ex : prX (sgn m f) k = (lev (sgn m f) k 7).1 := if_neg c2
      rw [ex]
      exact s4
theorem KS_5 {s : Rs Sa} {I' : Nat → Nat → Int32} (hs : KS m f ct s I) (hf : pj_fr eS I I') (hr : ∃ pg, RS m f pg 0 (sts (sgn m f) 59 (rsZ s)) I') : KS m f (ct + 1) (bd s fun b => bd (exS (sgn m f) 59 b.1) fun q => .ok (q, b.2)) (pj_u I' 18 16 (I' 18 16 + 1)) := by
  obtain ⟨pg, hr⟩ := hr
  obtain ⟨-, kb, hc⟩ := hs
  have kb' := KB_e hf kb
  refine ⟨⟨pg, ?_⟩, ⟨?_, ?_⟩, fun b eb => ?_⟩
  · have t : rsZ (bd s fun b => bd (exS (sgn m f) 59 b.1) fun q => .ok (q, b.2)) = sts (sgn m f) 59 (rsZ s) := by
      simp only [rsZ, sts, bd_bd, bd_o]
    rw [t]
    exact RS_u rfl hr
  · rw [pj_u_e, kb'.1, nI_1]
  · obtain ⟨-, x, y, h1, h2, h3, h4⟩ := kb'
    exact ⟨x, y, h1, h2, by rw [pj_u_j (by decide)]; exact h3, by rw [pj_u_j (by decide)]; exact h4⟩
  · obtain ⟨c, e1, eb⟩ := bd_ok eb
    obtain ⟨p, e2, eb⟩ := bd_ok eb
    cases eb
    exact CWp_fr (fun c j hc => by
      by_cases z : c = 18
      · subst z
        rw [pj_u_j (by omega)]
      · rw [pj_u_n z]) (CWp_e hf (hc c e1))
/-- Reading.readStatement -/
theorem f38 (hh : 71 ≤ h) {a : Sa} (hc8 : ct < 80) (hk : KS m f ct (.ok a) I) (hV : SV a) (q : ∀ I', pj_fr sC I I' → KS m f (ct + 1) (stf (sgn m f) a) I' → Q none (zc n, I', J)) : pj_D h 38 [.ref 31] (zc n, I, J) Q := by
  have hk' := hk
  obtain ⟨⟨pg, hs⟩, kb, hc⟩ := hk'
  have hs : RS m f pg 0 (.ok (a.1, a.2.2)) I := hs
  refine pj_ent (g := 70) hh (t := mt_38) rfl rfl (v38_0 (pj_D_le 70) I J ?_)
  refine br_t (by rw [kb.1]; exact nI_lt (b := 80) hc8 (by decide)) ?_
  have fin : ∀ s I1, pj_fr sC I I1 → KS m f ct s I1 → stm (sgn m f) a = s → pj_D 70 55 [.ref 31, .int 59] (zc n, I1, J) (kV n fun I2 J2 => Q none (zc n, pj_u I2 18 16 (I2 18 16 + 1), J2)) := fun s I1 f1 k1 e => by
    obtain ⟨pg1, s1⟩ := k1.1
    refine f55 (c := 59) (by decide) (by decide) s1 (fun I2 f2 s2 => kV_i (q _ (sC_u (pj_fr_tr f1 (sC_w f2)) (by decide) (by decide)) ?_))
    have t := KS_5 k1 f2 ⟨pg1, s2⟩
    rw [← e] at t
    exact t
  have h4 : I 32 4 = wo (own (sgn m f a.1)) := hs.2.2.1.2.2.2.2.1
  have o0 : (wo (own (sgn m f a.1)) = 0) ↔ own (sgn m f a.1) = some 0 := ow_i (k := 0) (by decide)
  have o1 : (wo (own (sgn m f a.1)) = 1) ↔ own (sgn m f a.1) = some 1 := ow_i (k := 1) (by decide)
  have o2 : (wo (own (sgn m f a.1)) = 2) ↔ own (sgn m f a.1) = some 2 := ow_i (k := 2) (by decide)
  have o3 : (wo (own (sgn m f a.1)) = 3) ↔ own (sgn m f a.1) = some 3 := ow_i (k := 3) (by decide)
  have o4 : (wo (own (sgn m f a.1)) = 4) ↔ own (sgn m f a.1) = some 4 := ow_i (k := 4) (by decide)
  have o5 : (wo (own (sgn m f a.1)) = 5) ↔ own (sgn m f a.1) = some 5 := ow_i (k := 5) (by decide)
  have o6 : (wo (own (sgn m f a.1)) = 6) ↔ own (sgn m f a.1) = some 6 := ow_i (k := 6) (by decide)
  have o7 : (wo (own (sgn m f a.1)) = 7) ↔ own (sgn m f a.1) = some 7 := ow_i (k := 7) (by decide)
  have o8 : (wo (own (sgn m f a.1)) = 8) ↔ own (sgn m f a.1) = some 8 := ow_i (k := 8) (by decide)
  have o9 : (wo (own (sgn m f a.1)) = 9) ↔ own (sgn m f a.1) = some 9 := ow_i (k := 9) (by decide)
  have o10 : (wo (own (sgn m f a.1)) = 10) ↔ own (sgn m f a.1) = some 10 := ow_i (k := 10) (by decide)
  have bad : own (sgn m f a.1) ≠ some 0 → own (sgn m f a.1) ≠ some 3 → own (sgn m f a.1) ≠ some 5 → own (sgn m f a.1) ≠ some 7 → own (sgn m f a.1) ≠ some 8 → own (sgn m f a.1) ≠ some 9 → own (sgn m f a.1) ≠ some 10 → pj_D 70 43 [.ref 31] (zc n, I, J) (kV n fun I3 J3 => pj_D 70 55 [.ref 31, .int 59] (zc n, I3, J3) (kV n fun I2 J2 => Q none (zc n, pj_u I2 18 16 (I2 18 16 + 1), J2))) := fun h0 h3 h5 h7 h8 h9 h10 => by
    refine f43 (by decide) hs (fun I1 f1 s1 => kV_i (fin (.error (1, (sgn m f a.1).pl)) I1 (sC_w f1) (KS_er s1 (KB_e f1 kb)) ?_))
    unfold stm
    rw [if_neg h0, if_neg h3, if_neg h5, if_neg h7, if_neg h8, if_neg h9, if_neg h10]
  rw [h4, o0, o1, o2, o3, o4, o5, o6, o7, o8, o9, o10]
  clear o0 o1 o2 o3 o4 o5 o6 o7 o8 o9 o10
  have vs : ∀ {x y : Nat}, own (sgn m f a.1) = some x → x ≠ y → own (sgn m f a.1) ≠ some y := fun e ne z => ne (Option.some.inj (e.symm.trans z))
  by_cases c0 : own (sgn m f a.1) = some 0
  · refine br_t c0 (f40 (by decide) hk hV c0 (fun I1 f1 k1 => kV_i (fin _ I1 f1 k1 ?_)))
    unfold stm; rw [if_pos c0]
  refine br_f c0 ?_
  by_cases c1 : own (sgn m f a.1) = some 1
  · exact br_t c1 (bad c0 (vs c1 (by decide)) (vs c1 (by decide)) (vs c1 (by decide)) (vs c1 (by decide)) (vs c1 (by decide)) (vs c1 (by decide)))
  refine br_f c1 ?_
  by_cases c2 : own (sgn m f a.1) = some 2
  · exact br_t c2 (bad c0 (vs c2 (by decide)) (vs c2 (by decide)) (vs c2 (by decide)) (vs c2 (by decide)) (vs c2 (by decide)) (vs c2 (by decide)))
  refine br_f c2 ?_
  by_cases c3 : own (sgn m f a.1) = some 3
  · refine br_t c3 (f46 (by decide) hk hV c3 (fun I1 f1 k1 => kV_i (fin _ I1 f1 k1 ?_)))
    unfold stm; rw [if_neg c0, if_pos c3]
  refine br_f c3 ?_
  by_cases c4 : own (sgn m f a.1) = some 4
  · exact br_t c4 (bad c0 c3 (vs c4 (by decide)) (vs c4 (by decide)) (vs c4 (by decide)) (vs c4 (by decide)) (vs c4 (by decide)))
  refine br_f c4 ?_
  by_cases c5 : own (sgn m f a.1) = some 5
  · refine br_t c5 (f47 (by decide) hk hV c5 (fun I1 f1 k1 => kV_i (fin _ I1 f1 k1 ?_)))
    unfold stm; rw [if_neg c0, if_neg c3, if_pos c5]
  refine br_f c5 ?_
  by_cases c6 : own (sgn m f a.1) = some 6
  · exact br_t c6 (bad c0 c3 c5 (vs c6 (by decide)) (vs c6 (by decide)) (vs c6 (by decide)) (vs c6 (by decide)))
  refine br_f c6 ?_
  by_cases c7 : own (sgn m f a.1) = some 7
  · refine br_t c7 (f48 (k := 0) (by decide) (by decide) hk hV c7 (fun I1 f1 k1 => kV_i (fin _ I1 f1 k1 ?_)))
    unfold stm; rw [if_neg c0, if_neg c3, if_neg c5, if_pos c7]
  refine br_f c7 ?_
  by_cases c8 : own (sgn m f a.1) = some 8
  · refine br_t c8 (f48 (k := 1) (by decide) (by decide) hk hV c8 (fun I1 f1 k1 => kV_i (fin _ I1 f1 k1 ?_)))
    unfold stm; rw [if_neg c0, if_neg c3, if_neg c5, if_neg c7, if_pos c8]
  refine br_f c8 ?_
  by_cases c9 : own (sgn m f a.1) = some 9
  · refine br_t c9 (f48 (k := 2) (by decide) (by decide) hk hV c9 (fun I1 f1 k1 => kV_i (fin _ I1 f1 k1 ?_)))
    unfold stm; rw [if_neg c0, if_neg c3, if_neg c5, if_neg c7, if_neg c8, if_pos c9]
  refine br_f c9 ?_
  by_cases c10 : own (sgn m f a.1) = some 10
  · refine br_t c10 (f65 (by decide) hs (fun b e => by cases e; exact Or.inl (own_k c10)) (fun I1 f1 s1 => kV_i ?_))
    have f1 := eS_w f1
    have s1 : RS m f pg 0 (.ok ((sgn m f a.1).nx, a.2.2)) I1 := s1
    refine f45 (x := 0) (y := 100) (by decide) (by decide) (by decide) s1 (fun I2 v2 f2 s2 hv2 => kI_i ?_)
    have F2 := pj_fr_tr f1 f2
    refine fin (fiS (sgn m f) a) _ (sC_u (sC_w F2) (by decide) (by decide)) ⟨⟨pg, ?_⟩, KB_fr (fun j hj => by rw [pj_u_j (by omega)]) (KB_e F2 kb), fun b eb => ?_⟩ ?_
    · have t : rsZ (fiS (sgn m f) a) = zb (.ok ((sgn m f a.1).nx, a.2.2)) fun p => bd (num (sgn m f) 0 100 p) fun v => .ok v.2 := by
        simp only [rsZ, fiS, zb, bd_bd, bd_o]
      rw [t]
      exact RS_u rfl s2
    · obtain ⟨v, e1, eb⟩ := bd_ok eb
      cases eb
      have x2 := hv2 _ v rfl e1
      have w0 := CWp_e F2 (hc a rfl)
      obtain ⟨⟨g8, g7, g12, g13, gcs⟩, gpc, g15, gcn, gmn⟩ := w0
      exact ⟨⟨g8, g7, (pj_u_j (by decide)).trans g12, (pj_u_j (by decide)).trans g13, fun j hj => ⟨(pj_u_n (by decide)).trans (gcs j hj).1, (pj_u_n (by decide)).trans (gcs j hj).2⟩⟩, PCp_fr (fun c j hc => pj_u_n (by omega)) gpc, pj_u_e.trans x2, fun j hj => (pj_u_n (by decide)).trans (gcn j hj), fun j hj => ⟨(pj_u_n (by decide)).trans (gmn j hj).1, (pj_u_n (by decide)).trans (gmn j hj).2.1, (pj_u_n (by decide)).trans (gmn j hj).2.2.1, (pj_u_n (by decide)).trans (gmn j hj).2.2.2⟩⟩
    · unfold stm; rw [if_neg c0, if_neg c3, if_neg c5, if_neg c7, if_neg c8, if_neg c9, if_pos c10]
  exact br_f c10 (bad c0 c3 c5 c7 c8 c9 c10)
end PKu
