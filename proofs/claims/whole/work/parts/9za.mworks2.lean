/-! the reference's works, whole -/
section PMw
variable {n h : Nat} {Q : pj_K} {I : Nat → Nat → Int32} {J : Nat → Nat → Int64} {A : Ab}
/-- PegCoatsModel.works -/
theorem m163 (hh : 8 ≤ h) (hA : AV A) (hI : InvM A I J) (q : ∀ I' J', mF I I' → InvM (wksR A).1 I' J' → Q (some (.int (wksR A).2)) (zc n, I', J')) : pj_D h 163 [.ref 276] (zc n, I, J) Q := by
  obtain ⟨i1, ⟨B0, b1, b2⟩, i3, i4, i5, i6, i7, i8, i9, i10, i11⟩ := hI
  have hB0 : B0 < 2 := b2.1.2.2.1
  obtain ⟨B, hBe⟩ : ∃ B, B = 1 - B0 := ⟨_, rfl⟩
  have hB2 : B < 2 := by omega
  have hBB : B0 ≠ B := by omega
  have m16 : A.tp.1 ≤ 1600 := i1.1
  unfold wksR at q
  refine pj_ent (g := 7) hh (t := mt_163) rfl rfl (v163_0 (pj_D_le 7) I J ?_)
  have eB : (1 : Int32) - nI B0 = nI B := by rw [hBe]; exact pk_sub (a := 1) (by omega)
  rw [b1, eB, nI_clamp (by omega)]
  have vB : vp_in (nI B) 2 := vp_in_nI hB2 (by decide)
  refine ⟨vB, vB, vB, ?_⟩
  -- what stays
  have stay : ∀ c j, okM B c j → ¬ (c = 276 ∧ (j = 1 ∨ j = 2 ∨ j = 29)) → (pj_u (pj_u (pj_u (pj_u (pj_u (pj_u (pj_u (pj_u (pj_u I 276 2 (I 276 1)) 276 1 0) 276 5 0) 276 8 0) 276 9 (-1)) 276 29 (nI B)) 278 B 0) 281 B 0) 285 B 0) c j = I c j := fun c j o hn => by
    obtain ⟨o1, o2, -⟩ := o
    by_cases e1 : c = 276
    · subst e1
      have o1 := o1 rfl
      rw [pj_u_n (by decide), pj_u_n (by decide), pj_u_n (by decide), pj_u_j (by omega), pj_u_j (by omega), pj_u_j (by omega), pj_u_j (by omega), pj_u_j (by omega), pj_u_j (by omega)]
    · by_cases e2 : c = 278 ∨ c = 281 ∨ c = 285
      · have := o2 e2
        rw [pj_u_j this, pj_u_j this, pj_u_j this, pj_u_n e1, pj_u_n e1, pj_u_n e1, pj_u_n e1, pj_u_n e1, pj_u_n e1]
      · rw [pj_u_n (by omega), pj_u_n (by omega), pj_u_n (by omega), pj_u_n e1, pj_u_n e1, pj_u_n e1, pj_u_n e1, pj_u_n e1, pj_u_n e1]
  have new : (pj_u (pj_u (pj_u (pj_u (pj_u (pj_u (pj_u (pj_u (pj_u I 276 2 (I 276 1)) 276 1 0) 276 5 0) 276 8 0) 276 9 (-1)) 276 29 (nI B)) 278 B 0) 281 B 0) 285 B 0) 276 2 = nI A.tp.1 ∧ (pj_u (pj_u (pj_u (pj_u (pj_u (pj_u (pj_u (pj_u (pj_u I 276 2 (I 276 1)) 276 1 0) 276 5 0) 276 8 0) 276 9 (-1)) 276 29 (nI B)) 278 B 0) 281 B 0) 285 B 0) 276 1 = 0 ∧ (pj_u (pj_u (pj_u (pj_u (pj_u (pj_u (pj_u (pj_u (pj_u I 276 2 (I 276 1)) 276 1 0) 276 5 0) 276 8 0) 276 9 (-1)) 276 29 (nI B)) 278 B 0) 281 B 0) 285 B 0) 276 5 = 0 ∧ (pj_u (pj_u (pj_u (pj_u (pj_u (pj_u (pj_u (pj_u (pj_u I 276 2 (I 276 1)) 276 1 0) 276 5 0) 276 8 0) 276 9 (-1)) 276 29 (nI B)) 278 B 0) 281 B 0) 285 B 0) 276 8 = 0 ∧ (pj_u (pj_u (pj_u (pj_u (pj_u (pj_u (pj_u (pj_u (pj_u I 276 2 (I 276 1)) 276 1 0) 276 5 0) 276 8 0) 276 9 (-1)) 276 29 (nI B)) 278 B 0) 281 B 0) 285 B 0) 276 9 = -1 ∧ (pj_u (pj_u (pj_u (pj_u (pj_u (pj_u (pj_u (pj_u (pj_u I 276 2 (I 276 1)) 276 1 0) 276 5 0) 276 8 0) 276 9 (-1)) 276 29 (nI B)) 278 B 0) 281 B 0) 285 B 0) 276 29 = nI B ∧ (pj_u (pj_u (pj_u (pj_u (pj_u (pj_u (pj_u (pj_u (pj_u I 276 2 (I 276 1)) 276 1 0) 276 5 0) 276 8 0) 276 9 (-1)) 276 29 (nI B)) 278 B 0) 281 B 0) 285 B 0) 278 B = 0 ∧ (pj_u (pj_u (pj_u (pj_u (pj_u (pj_u (pj_u (pj_u (pj_u I 276 2 (I 276 1)) 276 1 0) 276 5 0) 276 8 0) 276 9 (-1)) 276 29 (nI B)) 278 B 0) 281 B 0) 285 B 0) 281 B = 0 ∧ (pj_u (pj_u (pj_u (pj_u (pj_u (pj_u (pj_u (pj_u (pj_u I 276 2 (I 276 1)) 276 1 0) 276 5 0) 276 8 0) 276 9 (-1)) 276 29 (nI B)) 278 B 0) 281 B 0) 285 B 0) 285 B = 0 := by
    refine ⟨?_, ?_, ?_, ?_, ?_, ?_, ?_, ?_, pj_u_e⟩
    · rw [pj_u_n (by decide), pj_u_n (by decide), pj_u_n (by decide), pj_u_j (by decide), pj_u_j (by decide), pj_u_j (by decide), pj_u_j (by decide), pj_u_j (by decide), pj_u_e]; exact i1.2.1
    · rw [pj_u_n (by decide), pj_u_n (by decide), pj_u_n (by decide), pj_u_j (by decide), pj_u_j (by decide), pj_u_j (by decide), pj_u_j (by decide), pj_u_e]
    · rw [pj_u_n (by decide), pj_u_n (by decide), pj_u_n (by decide), pj_u_j (by decide), pj_u_j (by decide), pj_u_j (by decide), pj_u_e]
    · rw [pj_u_n (by decide), pj_u_n (by decide), pj_u_n (by decide), pj_u_j (by decide), pj_u_j (by decide), pj_u_e]
    · rw [pj_u_n (by decide), pj_u_n (by decide), pj_u_n (by decide), pj_u_j (by decide), pj_u_e]
    · rw [pj_u_n (by decide), pj_u_n (by decide), pj_u_n (by decide), pj_u_e]
    · rw [pj_u_n (by decide), pj_u_n (by decide), pj_u_e]
    · rw [pj_u_n (by decide), pj_u_e]
  generalize pj_u (pj_u (pj_u (pj_u (pj_u (pj_u (pj_u (pj_u (pj_u I 276 2 (I 276 1)) 276 1 0) 276 5 0) 276 8 0) 276 9 (-1)) 276 29 (nI B)) 278 B 0) 281 B 0) 285 B 0 = I0 at stay new
  obtain ⟨n2, n1, n5, n8, n9, n29, n78, n81, n85⟩ := new
  -- the ends
  have endE : ∀ e I9 J9 (v : Int32), stl (sgn A.tp.1 A.tp.2) 80 0 (0, W00, []) = .error e → FM B I0 I9 → FJ B J J9 → MS A.tp.1 A.tp.2 (.error e) I9 J9 → pj_R (pj_D 7) ta mc_163 false Q 111 [some (.ref 276), some (.int v)] [] (zc n) I9 J9 0 0 := fun e I9 J9 v u F G s9 => by
    rw [u] at q
    have q : ∀ I' J', mF I I' → InvM (A.wE e) I' J' → Q (some (.int (-1))) (zc n, I', J') := q
    refine v163_111 (pj_D_le 7) I9 J9 _ ⟨fun _ => br_f (ME_n s9.2).1 ?_, fun z => absurd z (ME_n s9.2).2⟩
    refine s160 (k := 1) (by decide) (by decide) (kI_i (q _ J9 ?_ ?_))
    · intro c j hc
      rw [pj_u_n (by omega), pj_u_n (by omega), pj_u_n (by omega), F c j ⟨by omega, by omega, by omega, by omega, by omega, by omega, by omega⟩]
      exact stay c j ⟨by omega, by omega, by omega, by omega, by omega, by omega, by omega⟩ (by omega)
    · have g : ∀ c j, okM B c j → ¬ (c = 276 ∧ (j = 1 ∨ j = 2 ∨ j = 29 ∨ j = 10 ∨ j = 11)) → c ≠ 298 → (pj_u (pj_u (pj_u I9 276 10 (I9 276 8)) 276 11 (I9 276 9)) 298 1 (pj_u (pj_u I9 276 10 (I9 276 8)) 276 11 (I9 276 9) 298 1 + 1)) c j = I c j := fun c j o hn h8 => by
        rw [pj_u_n h8]
        by_cases e1 : c = 276
        · subst e1
          rw [pj_u_j (by omega), pj_u_j (by omega), F _ _ o]
          exact stay _ _ o (by omega)
        · rw [pj_u_n e1, pj_u_n e1, F _ _ o]
          exact stay _ _ o (by omega)
      have g8 : ∀ j, (pj_u (pj_u I9 276 10 (I9 276 8)) 276 11 (I9 276 9)) 298 j = I 298 j := fun j => by
        rw [pj_u_n (by decide), pj_u_n (by decide), F _ _ ⟨by omega, by omega, by omega, by omega, by omega, by omega, by omega⟩]
        exact stay _ _ ⟨by omega, by omega, by omega, by omega, by omega, by omega, by omega⟩ (by omega)
      have gl : ∀ c j, 299 ≤ c → (pj_u (pj_u (pj_u I9 276 10 (I9 276 8)) 276 11 (I9 276 9)) 298 1 (pj_u (pj_u I9 276 10 (I9 276 8)) 276 11 (I9 276 9) 298 1 + 1)) c j = I c j := fun c j hc => g c j ⟨by omega, by omega, by omega, by omega, by omega, by omega, by omega⟩ (by omega) (by omega)
      have gf : ∀ j, j = 13 ∨ j = 52 ∨ j = 53 ∨ j = 60 ∨ j = 66 → (pj_u (pj_u (pj_u I9 276 10 (I9 276 8)) 276 11 (I9 276 9)) 298 1 (pj_u (pj_u I9 276 10 (I9 276 8)) 276 11 (I9 276 9) 298 1 + 1)) 276 j = I 276 j := fun j hj => g 276 j ⟨by omega, by omega, by omega, by omega, by omega, by omega, by omega⟩ (by omega) (by omega)
      refine ⟨⟨Nat.zero_le _, ?_, fun k hk => absurd hk (Nat.not_lt_zero _)⟩, ⟨B0, (gf 13 (by decide)).trans b1, MW_o hB2 hBB (fun c j h1 h2 o => g c j o (by omega) (by omega)) G b2⟩, LM_x (v := 1) hA.2.1 hA.2.2.1 (by decide) (fun c j h1 h2 _ => gl c j h1) i3, KM_x (v := 1) (by decide) (fun c j h1 h2 _ => gl c j h1) i4, hM_x (v := 1) hA.2.1 hA.2.2.1 (by decide) (gf 52 (by decide)) (gf 53 (by decide)) (fun c j h1 h2 _ => gl c j h1) i5, fun k hk => ?_, (G 276 54 ⟨by omega, by omega, by omega⟩).trans i7, ⟨?_, ?_⟩, ⟨(gf 60 (by decide)).trans i9.1, fun i hi => ⟨(gl _ _ (by decide)).trans (i9.2 i hi).1, (gl _ _ (by decide)).trans (i9.2 i hi).2.1, (gl _ _ (by decide)).trans (i9.2 i hi).2.2⟩⟩, (gf 66 (by decide)).trans i10, fun i hi => (gl _ _ (by decide)).trans (i11 i hi)⟩
      · rw [pj_u_n (by decide), pj_u_j (by decide), pj_u_j (by decide), F _ _ ⟨by omega, by omega, by omega, by omega, by omega, by omega, by omega⟩]
        exact n1
      · show _ = upd1 A.rf 1 (A.rf 1 + 1) k
        by_cases e1 : k = 1
        · subst e1
          rw [pj_u_e, upd1_e, g8, i6 1 (by decide)]
        · rw [pj_u_j e1, upd1_n e1, g8, i6 k hk]
      · rw [pj_u_n (by decide), pj_u_j (by decide), pj_u_e]; exact s9.2.1
      · rw [pj_u_n (by decide), pj_u_e]; exact s9.2.2.2.2
  have endO : ∀ ct a I9 J9, stl (sgn A.tp.1 A.tp.2) 80 0 (0, W00, []) = .ok (ct, a) → FM B I0 I9 → FJ B J J9 → KQ A.tp.1 A.tp.2 B (.ok a) I9 J9 → SV a → pj_D 7 199 [.ref 276] (zc n, (pj_u (pj_u (pj_u I9 276 10 (I9 276 8)) 276 11 (I9 276 9)) 276 13 (I9 276 29)), J9) (kV n fun I3 J3 => Q (some (.int (nI ct))) (zc n, I3, J3)) := fun ct a I9 J9 u F G k9 v9 => by
    rw [u] at q
    have q : ∀ I' J', mF I I' → InvM (A.wO a.2.1) I' J' → Q (some (.int (nI ct))) (zc n, I', J') := q
    obtain ⟨s9, e29, hc⟩ := k9
    obtain ⟨hw, h28, hMC⟩ := hc a rfl
    have s9 : MS A.tp.1 A.tp.2 (.ok a.1) I9 J9 := s9
    have hl : a.2.2.length ≤ 1600 := by have := v9.2.1; have := s9.2.2.2.1; omega
    have w9 := MWp_MW hw hl hMC
    have w10 : MW a.2.1 B (pj_u (pj_u (pj_u I9 276 10 (I9 276 8)) 276 11 (I9 276 9)) 276 13 (I9 276 29)) J9 := MW_fr (fun c j h1 h2 => by rw [pj_u_n (by omega), pj_u_n (by omega), pj_u_n (by omega)]) (fun _ _ _ _ => rfl) w9
    refine m199 (by decide) (by rw [pj_u_e]; exact e29) w10 v9.1 (fun I5 f5 L5 k5 u5 r5 => kV_i (q I5 J9 ?_ ?_))
    · intro c j hc
      rw [f5 c j (by omega) (by omega), pj_u_n (by omega), pj_u_n (by omega), pj_u_n (by omega), F c j ⟨by omega, by omega, by omega, by omega, by omega, by omega, by omega⟩]
      exact stay c j ⟨by omega, by omega, by omega, by omega, by omega, by omega, by omega⟩ (by omega)
    · have g : ∀ c j, okM B c j → c ≠ 276 → (c < 299 ∨ 307 < c) → I5 c j = I c j := fun c j o h1 h2 => by
        rw [f5 c j h2 (by omega), pj_u_n h1, pj_u_n h1, pj_u_n h1, F c j o]
        exact stay c j o (by omega)
      have gl : ∀ c j, c = 298 ∨ 307 < c → I5 c j = I c j := fun c j hc => g c j ⟨by omega, by omega, by omega, by omega, by omega, by omega, by omega⟩ (by omega) (by omega)
      have gf : ∀ j, j = 52 ∨ j = 66 → I5 276 j = I 276 j := fun j hj => by
        rw [f5 276 j (by decide) (by omega), pj_u_j (by omega), pj_u_j (by omega), pj_u_j (by omega), F 276 j ⟨by omega, by omega, by omega, by omega, by omega, by omega, by omega⟩]
        exact stay 276 j ⟨by omega, by omega, by omega, by omega, by omega, by omega, by omega⟩ (by omega)
      obtain ⟨uf, c1, c2, c3, c4⟩ := i5
      refine ⟨⟨Nat.zero_le _, ?_, fun k hk => absurd hk (Nat.not_lt_zero _)⟩, ⟨B, ?_, MW_fr (fun c j h1 h2 => f5 c j (by omega) (by omega)) (fun _ _ _ _ => rfl) w10⟩, L5, ⟨k5, fun i hi => absurd hi (Nat.not_lt_zero _)⟩, ⟨uf, c1, (gf 52 (by decide)).trans c2, u5, fun i hi => absurd hi (Nat.not_lt_zero _)⟩, fun k hk => (gl _ _ (by decide)).trans (i6 k hk), (G 276 54 ⟨by omega, by omega, by omega⟩).trans i7, ⟨?_, ?_⟩, ⟨r5, fun i hi => absurd hi (Nat.not_lt_zero _)⟩, (gf 66 (by decide)).trans i10, fun i hi => (gl _ _ (by decide)).trans (i11 i hi)⟩
      · rw [f5 276 1 (by decide) (by decide), pj_u_j (by decide), pj_u_j (by decide), pj_u_j (by decide), F _ _ ⟨by omega, by omega, by omega, by omega, by omega, by omega, by omega⟩]
        exact n1
      · rw [f5 276 13 (by decide) (by decide), pj_u_e]; exact e29
      · rw [f5 276 10 (by decide) (by decide), pj_u_j (by decide), pj_u_j (by decide), pj_u_e]; exact s9.2.1
      · rw [f5 276 11 (by decide) (by decide), pj_u_j (by decide), pj_u_e]; exact s9.2.2.2.2
  -- the statements
  have loop : ∀ r ct a I2 J2, r + ct = 80 → FM B I0 I2 → FJ B J J2 → KQ A.tp.1 A.tp.2 B (.ok a) I2 J2 → SV a → stl (sgn A.tp.1 A.tp.2) 80 0 (0, W00, []) = stl (sgn A.tp.1 A.tp.2) r ct a → (r = 0 → (sgn A.tp.1 A.tp.2 a.1).k = 0) → pj_R (pj_D 7) ta mc_163 false Q 111 [some (.ref 276), some (.int (nI ct))] [] (zc n) I2 J2 0 0 := by
    intro r
    induction r with
    | zero =>
      intro ct a I2 J2 hr F G k2 v2 u hz
      have k0 := hz rfl
      have s2 : MS A.tp.1 A.tp.2 (.ok a.1) I2 J2 := k2.1
      have e3 : I2 276 3 = 0 := by rw [s2.2.2.1.1, if_neg (by omega), k0]; rfl
      have u : stl (sgn A.tp.1 A.tp.2) 80 0 (0, W00, []) = .ok (ct, a) := u.trans (if_pos k0)
      exact v163_111 (pj_D_le 7) I2 J2 _ ⟨fun z => absurd s2.2.1 z, fun _ => br_t e3 (br_t (by rw [s2.2.1]; decide) (endO ct a I2 J2 u F G k2 v2))⟩
    | succ r ih =>
      intro ct a I2 J2 hr F G k2 v2 u hz
      have s2 : MS A.tp.1 A.tp.2 (.ok a.1) I2 J2 := k2.1
      have kv := sgn_kv (m := A.tp.1) (f := A.tp.2) (p := a.1) (fun k hk => (s2.1.2.2 k hk).2)
      by_cases k0 : (sgn A.tp.1 A.tp.2 a.1).k = 0
      · have e3 : I2 276 3 = 0 := by rw [s2.2.2.1.1, if_neg (by omega), k0]; rfl
        have u : stl (sgn A.tp.1 A.tp.2) 80 0 (0, W00, []) = .ok (ct, a) := u.trans (if_pos k0)
        exact v163_111 (pj_D_le 7) I2 J2 _ ⟨fun z => absurd s2.2.1 z, fun _ => br_t e3 (br_t (by rw [s2.2.1]; decide) (endO ct a I2 J2 u F G k2 v2))⟩
      · have e3 : ¬ I2 276 3 = 0 := by
          rw [s2.2.2.1.1]
          by_cases c4 : (sgn A.tp.1 A.tp.2 a.1).k = 4
          · rw [if_pos c4]
            rcases sgn_c.2 c4 with z | z <;> rw [z] <;> decide
          · rw [if_neg c4]
            exact nI_ne0 (by omega) (by omega)
        have u : stl (sgn A.tp.1 A.tp.2) 80 0 (0, W00, []) = bd (stf (sgn A.tp.1 A.tp.2) a) (stl (sgn A.tp.1 A.tp.2) r (ct + 1)) := u.trans (if_neg k0)
        obtain ⟨t1, t2, t3⟩ := fin_stl (m := A.tp.1) (f := A.tp.2) (r := r) (ct := ct) (a := a) (by omega)
        rw [t1] at u
        refine v163_111 (pj_D_le 7) I2 J2 _ ⟨fun z => absurd s2.2.1 z, fun _ => br_f e3 ?_⟩
        rw [nI_1]
        refine m167 (by decide) hB2 k2 v2 (fun s I3 J3 hs F3 G3 k3 => kV_i (m197 (by decide) (by omega) hs k3 (fun I4 J4 F4 G4 k4 => kV_i ?_)))
        cases e1 : fin (sgn A.tp.1 A.tp.2) (ct + 1) (stm (sgn A.tp.1 A.tp.2) a) with
        | error e =>
          rw [e1] at u k4
          exact endE e I4 J4 _ u (FM_tr (FM_tr F F3) F4) (FJ_tr (FJ_tr G G3) G4) k4.1
        | ok b =>
          rw [e1] at u k4
          exact ih (ct + 1) b I4 J4 (by omega) (FM_tr (FM_tr F F3) F4) (FJ_tr (FJ_tr G G3) G4) k4 (stf_v v2 (t3 b e1)) u (fun r0 => t2 r0 b e1)
  -- the programs are taken away
  suffices l1 : ∀ r k, r + k = 3 → ∀ I1, FM B I0 I1 → (∀ c j, c ≠ 286 → I1 c j = I0 c j) → (∀ p, p < k → I1 286 (3 * B + p) = -1) → pj_R (pj_D 7) ta mc_163 false Q 75 [some (.ref 276), some (.int (nI (3 * B + k)))] [] (zc n) I1 J 0 0 by
    have t := l1 3 0 rfl I0 FM_rf (fun _ _ _ => rfl) (fun p hp => absurd hp (Nat.not_lt_zero _))
    rw [show (3 : Int32) * nI B = nI (3 * B + 0) from li_3 B]
    exact t
  intro r
  induction r with
  | succ r ih =>
    intro k hk I1 F1 g1 p1
    refine v163_75 (pj_D_le 7) I1 J _ ?_
    rw [show I1 276 29 = nI B from (g1 _ _ (by decide)).trans n29, li_3, show nI (3 * B) + 3 = nI (3 * B + 3) from nI_add (3 * B) 3, nI_clamp (by omega), nI_1]
    refine pk_le (3 * B + 3) (3 * B + k) (fun c => by omega) (fun c => ⟨vp_in_nI (by omega) (by decide), ih (k + 1) (by omega) _ (FM_u F1 (fun z => by have := z.2.2.2.2.1 (by decide); omega)) (fun c j hc => by rw [pj_u_n hc]; exact g1 c j hc) (fun p hp => ?_)⟩)
    by_cases e : p = k
    · rw [e, pj_u_e]
    · rw [pj_u_j (by omega)]; exact p1 p (by omega)
  | zero =>
    intro k hk I1 F1 g1 p1
    have k3 : k = 3 := by omega
    subst k3
    refine v163_75 (pj_D_le 7) I1 J _ ?_
    rw [show I1 276 29 = nI B from (g1 _ _ (by decide)).trans n29, li_3, show nI (3 * B) + 3 = nI (3 * B + 3) from nI_add (3 * B) 3]
    refine pk_le (3 * B + 3) (3 * B + 3) (fun _ => ?_) (fun c => by omega)
    have g2 : ∀ c j, c ≠ 286 → (c = 276 → j ≠ 28) → (pj_u I1 276 28 0) c j = I0 c j := fun c j h1 h2 => by
      by_cases e : c = 276
      · rw [e, pj_u_j (h2 e)]; exact g1 _ _ (by decide)
      · rw [pj_u_n e]; exact g1 c j h1
    have T2 : TZ A.tp.1 A.tp.2 (pj_u I1 276 28 0) := ⟨m16, (g2 _ _ (by decide) (by decide)).trans n2, fun k hk => ⟨(g2 _ _ (by decide) (fun z => absurd z (by decide))).trans ((stay _ _ ⟨by omega, by omega, by omega, by omega, by omega, by omega, by omega⟩ (by omega)).trans (i1.2.2 k hk).1), (i1.2.2 k hk).2⟩⟩
    refine m164 (by decide) (p := 0) T2 (Nat.zero_le _) ((g2 _ _ (by decide) (by decide)).trans n5) (fun I3 J3 f3 j3 t3 => kV_i ?_)
    have F3 : FM B I0 I3 := FM_tr (FM_u F1 (fun z => (z.1 rfl).2.2.2.2.2.2.2.1 rfl)) (FM_x (xM_w f3))
    have z3 : ∀ c j, c ≠ 276 → c ≠ 286 → I3 c j = I0 c j := fun c j h1 h2 => by rw [f3 c j (zM_f h1)]; exact g2 c j h2 (fun z => absurd z h1)
    refine loop 80 0 (0, W00, []) I3 J3 rfl F3 (FJ_j j3) ⟨⟨TZ_z f3 T2, ?_, t3, Nat.zero_le _, ?_⟩, ?_, fun a ea => ?_⟩ ⟨WV_0, Nat.le_refl _, Nat.zero_le _, Nat.zero_le _⟩ rfl (fun z => by cases z)
    · rw [f3 276 8 rfl]; exact (g2 _ _ (by decide) (by decide)).trans n8
    · rw [f3 276 9 rfl]; exact (g2 _ _ (by decide) (by decide)).trans n9
    · rw [f3 276 29 rfl]; exact (g2 _ _ (by decide) (by decide)).trans n29
    · cases ea
      refine ⟨⟨⟨Nat.zero_le _, Nat.zero_le _, hB2, (z3 _ _ (by decide) (by decide)).trans n78, (z3 _ _ (by decide) (by decide)).trans n81, fun k hk => absurd hk (Nat.not_lt_zero _)⟩, fun p hp => ?_, (z3 _ _ (by decide) (by decide)).trans n85, fun k hk => absurd hk (Nat.not_lt_zero _), fun k hk => absurd hk (Nat.not_lt_zero _)⟩, ?_, trivial⟩
      · show I3 286 (3 * B + p) = -1
        rw [f3 286 _ rfl, pj_u_n (by decide)]
        exact p1 p hp
      · rw [f3 276 28 rfl, pj_u_e]; rfl
end PMw
