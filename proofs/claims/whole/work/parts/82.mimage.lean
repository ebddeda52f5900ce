/-! image of the reference -/
section PI3
variable {n h : Nat} {Q : pj_K} {I I' : Nat → Nat → Int32} {J : Nat → Nat → Int64} {A : Ab}
theorem oS_f {c j : Nat} (h1 : c ≠ 318) (h2 : c ≠ 276 ∨ j ≠ 66) : oS c j = false := by
  unfold oS
  have e : (c == 276 && j == 66) = false := by
    rw [Bool.and_eq_false_iff, beq_eq_false_iff_ne, beq_eq_false_iff_ne]; exact h2
  rw [e, beq_eq_false_iff_ne.mpr h1]; rfl
theorem InvM_p {B : Nat} (hA : AV A) (hf : pj_fr oS I I') (h : InvM A I J) (b1 : I 276 13 = nI B) (b2 : MW A.W B I J) : I' 276 13 = nI B ∧ MW A.W B I' J ∧ LM A.W 0 A.L I' :=
  ⟨(hf _ _ rfl).trans b1, MW_fr (fun c j h1 h2 => hf c j (oS_f (by omega) (by omega))) (fun c j _ _ => rfl) b2, LM_x (v := 1) hA.2.1 hA.2.2.1 (by decide) (fun c j h1 h2 _ => hf c j (oS_f (by omega) (by omega))) h.2.2.1⟩
theorem a255 {b : Nat} (hb : b < 256) : nI b &&& 255 = nI b := by
  rw [an8 (by omega), Nat.mod_eq_of_lt hb]
/-- PegCoatsModel.image -/
theorem m259 (hh : 3 ≤ h) (hA : AV A) (hI : InvM A I J) (q : ∀ I' J', mF I I' → InvM (imageR A).1 I' J' → Q (some (.int (imageR A).2)) (zc n, I', J')) : pj_D h 259 [.ref 276] (zc n, I, J) Q := by
  have h7 := hA.2.2.1
  have h8 := hA.2.1
  have hV := hA.2.2.2.1
  have hy := hV.1
  obtain ⟨B, b1, b2⟩ := hI.2.1
  have hB2 := b2.1.2.2.1
  have iB := vp_in_nI (n := B) hB2 (by decide)
  have eB : (nI B).toNatClampNeg = B := nI_clamp (by omega)
  have fin : ∀ I', pj_fr oS I I' → PO (imgL A.W A.L) I' → Q (some (.int (I' 276 66))) (zc n, I', J) := by
    intro I1 hf hP
    have f : ∀ c j, c ≠ 318 → (c ≠ 276 ∨ j ≠ 66) → I1 c j = I c j := fun c j h1 h2 => hf c j (oS_f h1 h2)
    have g : ∀ c j, 299 ≤ c → c ≤ 308 → mS 1 c j = false → I1 c j = I c j := fun c j h1 h2 _ => f c j (by omega) (by omega)
    have e : I1 276 66 = nI (2 + 2 * A.W.nc + 6 * A.W.nm + 1) := hP.1.trans (by rw [imgL_len])
    rw [e]
    exact q I1 J (fun c j hc => f c j (by omega) (by omega)) (InvM_ex hI rfl (Or.inl ⟨rfl, f _ _ (by decide) (by decide), fun j => f _ _ (by decide) (by omega)⟩) ⟨f _ _ (by decide) (by decide), fun c j h1 h2 => f c j (by omega) (by omega), fun c j _ _ => rfl⟩ (LM_x h8 h7 (by decide) g hI.2.2.1) (KM_x (by decide) g hI.2.2.2.1) (hM_eq (A := A) rfl rfl rfl (hM_x h8 h7 (by decide) (f _ _ (by decide) (by decide)) (f _ _ (by decide) (by decide)) g hI.2.2.2.2.1)) (Or.inl ⟨rfl, fun j => f _ _ (by decide) (by omega)⟩) (Or.inl ⟨rfl, rfl⟩) (Or.inl ⟨rfl, f _ _ (by decide) (by decide), f _ _ (by decide) (by decide)⟩) (Or.inl ⟨rfl, f _ _ (by decide) (by decide), fun c j h1 h2 => f c j (by omega) (by omega)⟩) (Or.inr ⟨e, fun i hi => hP.2 i (by rw [imgL_len]; exact hi)⟩))
  refine pj_ent (g := 2) hh (t := mt_259) rfl rfl (v259_0 (pj_D_le 2) I J ?_)
  have p0 : PO [] (pj_u I 276 66 0) := ⟨pj_u_e, fun i hi => by cases hi⟩
  have y1 : A.L.yr / 256 < 256 := by omega
  rw [hI.2.2.1.1, sh8 (by omega)]
  refine s260w (by decide) p0 (by decide) (a255 y1) (fun I1 f1 p1 => kV_i ?_)
  have f1 : pj_fr oS I I1 := pj_fr_tr (pj_fr_u pj_fr_rf rfl) f1
  rw [(InvM_p hA f1 hI b1 b2).2.2.1]
  refine s260w (by decide) p1 (by rw [app_len]; decide) (an8 (by omega)) (fun I2 f2 p2 => kV_i ?_)
  have f2 := pj_fr_tr f1 f2
  have check : ∀ r k I', r + k = 2 + 2 * A.W.nc + 6 * A.W.nm → pj_fr oS I I' → PO (mby A.W A.L A.W.nm) I' → pj_R (pj_D 2) ta mc_259 false Q 179 [some (.ref 276), some (.int (nI (chk (fun i => (mby A.W A.L A.W.nm).getD i 0) k))), some (.int (nI k))] [] (zc n) I' J 0 0 := by
    intro r
    induction r with
    | zero =>
      intro k I' hk hf hP
      obtain rfl : k = 2 + 2 * A.W.nc + 6 * A.W.nm := by omega
      refine v259_179 (pj_D_le 2) I' J _ _ ?_
      rw [hP.1, mby_len]
      exact br_t (nI_le (Nat.le_refl _) (by omega)) (s260w (by decide) hP (by rw [mby_len]; omega) (a255 (Nat.lt_trans (chk_lt _ _) (by decide))) (fun I3 f3 p3 => kV_i (fin I3 (pj_fr_tr hf f3) p3)))
    | succ r ih =>
      intro k I' hk hf hP
      refine v259_179 (pj_D_le 2) I' J _ _ ?_
      rw [hP.1, mby_len, nI_clamp (n := k) (by omega), hP.2 k (by rw [mby_len]; omega), ck_step (chk_lt _ _) (bys_m h8 hV (Nat.le_refl _) k), nI_1]
      exact br_f (nI_ge (by omega) (by omega)) ⟨pk_in k 70 (by omega), ih (k + 1) I' (by omega) hf hP⟩
  have men : ∀ r k I', r + k = A.W.nm → pj_fr oS I I' → PO (mby A.W A.L k) I' → pj_R (pj_D 2) ta mc_259 false Q 83 [some (.ref 276), some (.int (nI k)), none] [] (zc n) I' J 0 0 := by
    intro r
    induction r with
    | zero =>
      intro k I' hk hf hP
      obtain rfl : k = A.W.nm := by omega
      obtain ⟨c1, c2, c3⟩ := InvM_p hA hf hI b1 b2
      refine v259_83 (pj_D_le 2) I' J _ ?_
      rw [c1, eB, c2.1.2.2.2.2.1]
      exact ⟨iB, br_t (nI_le (Nat.le_refl _) (by omega)) (check (2 + 2 * A.W.nc + 6 * A.W.nm) 0 I' (by omega) hf hP)⟩
    | succ r ih =>
      intro k I' hk hf hP
      have hkm : k < A.W.nm := by omega
      have i7 := pk_in (x := nI k) k 154 (by omega)
      have v := hV.2.2.1 k hkm
      have ml := mby_len (W := A.W) (L := A.L) (k := k)
      obtain ⟨c1, c2, c3⟩ := InvM_p hA hf hI b1 b2
      have R : ∀ {I' : Nat → Nat → Int32}, pj_fr oS I I' → I' 302 k = nI (A.L.siz k) ∧ I' 303 k = nI (A.L.age k) ∧ I' 304 k = wo (A.L.wor k) ∧ I' 305 k = nI (A.L.pur k) := fun hf => by
        have := (InvM_p hA hf hI b1 b2).2.2.2.2.2.2 k hkm
        rw [Nat.mul_zero, Nat.zero_add] at this
        exact this
      refine v259_83 (pj_D_le 2) I' J _ ?_
      rw [c1, eB, c2.1.2.2.2.2.1, nI_clamp (n := k) (by omega), (R hf).1, nI_1]
      refine ⟨iB, br_f (nI_ge hkm (by omega)) ⟨i7, s260w (by decide) hP (by omega) (a255 (by omega)) (fun I1 f1 p1 => kV_i ⟨i7, ?_⟩)⟩⟩
      have g1 := pj_fr_tr hf f1
      rw [(R g1).2.1]
      refine s260w (by decide) p1 (by rw [app_len]; omega) (a255 (by omega)) (fun I2 f2 p2 => kV_i ⟨i7, ?_⟩)
      have g2 := pj_fr_tr g1 f2
      rw [(R g2).2.2.1]
      refine s260w (by decide) (b := (A.L.wor k).getD 255) p2 (by rw [app_len, app_len]; omega) ?_ (fun I3 f3 p3 => kV_i ⟨i7, ?_⟩)
      · cases e : A.L.wor k with
        | none => decide
        | some c => exact a255 (b := c) (by have := LV_c hV hkm e; omega)
      have g3 := pj_fr_tr g2 f3
      rw [(R g3).2.2.2, sh8 (by omega)]
      refine s260w (by decide) p3 (by rw [app_len, app_len, app_len]; omega) (a255 (by omega)) (fun I4 f4 p4 => kV_i ⟨i7, ?_⟩)
      have g4 := pj_fr_tr g3 f4
      rw [(R g4).2.2.2]
      refine s260w (by decide) p4 (by rw [app_len, app_len, app_len, app_len]; omega) (an8 (by omega)) (fun I5 f5 p5 => kV_i ?_)
      have g5 := pj_fr_tr g4 f5
      obtain ⟨G, q1, q2, q3⟩ := (InvM_p hA g5 hI b1 b2).2.2.2.2.1
      refine s206 (by decide) (v := 0) (by decide) q1 (by omega) (by omega) (kI_i ?_)
      rw [q3 k hkm, Bool.not_not]
      have last : ∀ b, b = (A.L.the k).toNat → pj_D 2 260 [.ref 276, .int (nI b)] (zc n, I5, J) (kV n fun I7 J7 => pj_R (pj_D 2) ta mc_259 false Q 83 [some (.ref 276), some (.int (nI (k + 1))), none] [] (zc n) I7 J7 0 0) := fun b hb =>
        s260w (by decide) p5 (by rw [app_len, app_len, app_len, app_len, app_len]; omega) (a255 (by rw [hb]; cases A.L.the k <;> decide)) (fun I6 f6 p6 => kV_i (ih (k + 1) I6 (by omega) (pj_fr_tr g5 f6) (by rw [hb] at p6; exact p6)))
      cases e : A.L.the k with
      | true => exact ⟨fun z => absurd z (by decide), fun _ => last 1 (by rw [e]; rfl)⟩
      | false => exact ⟨fun _ => last 0 (by rw [e]; rfl), fun z => absurd rfl z⟩
  suffices coats : ∀ r k I', r + k = A.W.nc → pj_fr oS I I' → PO (cby A.L k) I' → pj_R (pj_D 2) ta mc_259 false Q 30 [some (.ref 276), some (.int (nI k)), none] [] (zc n) I' J 0 0 from coats A.W.nc 0 I2 (by omega) f2 p2
  intro r
  induction r with
  | zero =>
    intro k I' hk hf hP
    obtain rfl : k = A.W.nc := by omega
    obtain ⟨c1, c2, c3⟩ := InvM_p hA hf hI b1 b2
    refine v259_30 (pj_D_le 2) I' J _ ?_
    rw [c1, eB, c2.1.2.2.2.1]
    exact ⟨iB, br_t (nI_le (Nat.le_refl _) (by omega)) (men A.W.nm 0 I' (by omega) hf hP)⟩
  | succ r ih =>
    intro k I' hk hf hP
    have hkc : k < A.W.nc := by omega
    have i8 := pk_in (x := nI k) k 176 (by omega)
    have cl := cby_len (L := A.L) (k := k)
    obtain ⟨c1, c2, c3⟩ := InvM_p hA hf hI b1 b2
    obtain ⟨S, q1, q2, q3⟩ := c3.2.1
    refine v259_30 (pj_D_le 2) I' J _ ?_
    rw [c1, eB, c2.1.2.2.2.1, nI_clamp (n := k) (by omega), q1, nI_1]
    refine ⟨iB, br_f (nI_ge hkc (by omega)) (s207 (by decide) (by omega) (by omega) (kI_i ?_))⟩
    rw [q3 k hkc]
    have go : ∀ b, b = (A.L.bur k).toNat → pj_D 2 260 [.ref 276, .int (nI b)] (zc n, I', J) (kV n fun I1 J1 => (vp_in (nI k) 176 ∧ pj_D 2 260 [.ref 276, .int (I1 301 k)] (zc n, I1, J1) (kV n fun I2 J2 => pj_R (pj_D 2) ta mc_259 false Q 30 [some (.ref 276), some (.int (nI (k + 1))), none] [] (zc n) I2 J2 0 0))) := fun b hb => by
      refine s260w (by decide) hP (by omega) (a255 (by rw [hb]; cases A.L.bur k <;> decide)) (fun I1 f1 p1 => kV_i ⟨i8, ?_⟩)
      have g1 := pj_fr_tr hf f1
      have l := (InvM_p hA g1 hI b1 b2).2.2.2.2.2.1 k hkc
      rw [Nat.mul_zero, Nat.zero_add] at l
      rw [l]
      exact s260w (by decide) p1 (by rw [app_len]; omega) (a255 (by have := hV.2.1 k hkc; omega)) (fun I2 f2 p2 => kV_i (ih (k + 1) I2 (by omega) (pj_fr_tr g1 f2) (by rw [hb] at p2; exact p2)))
    cases e : A.L.bur k with
    | true => exact ⟨fun z => absurd z (by decide), fun _ => go 1 (by rw [e]; rfl)⟩
    | false => exact ⟨fun _ => go 0 (by rw [e]; rfl), fun z => absurd rfl z⟩
end PI3
