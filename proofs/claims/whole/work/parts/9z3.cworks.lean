/-! the class's works -/
theorem nI_all (x : Int32) : ∃ k, x = nI k := ⟨x.toBitVec.toNat, Int32.toBitVec_inj.mp (BitVec.eq_of_toNat_eq (by rw [pk_tn x.toBitVec.isLt]))⟩
section PKw
variable {n h : Nat} {Q : pj_K} {I : Nat → Nat → Int32} {J : Nat → Nat → Int64} {m : Nat} {f : Nat → Nat} {ct : Nat}
/-- Works.clear -/
theorem s100 (hh : 1 ≤ h) (q : ∀ I', (∀ c j, c ≠ 18 → c ≠ 27 → c ≠ 28 → I' c j = I c j) → (I' 18 12 = 0 ∧ I' 18 13 = 0 ∧ I' 18 14 = 0 ∧ I' 18 15 = 0 ∧ I' 18 16 = 0) → (∀ k, k < 3 → I' 27 k = 0 ∧ I' 28 k = 0) → Q none (zc n, I', J)) : pj_D h 100 [.ref 18] (zc n, I, J) Q := by
  refine pj_ent (g := 0) hh (t := mt_100) rfl rfl (v100_0 (pj_D_le 0) I J ?_)
  suffices loop : ∀ r k, r + k = 3 → ∀ I1, (∀ c j, c ≠ 27 → c ≠ 28 → I1 c j = I c j) → (∀ j, j < k → I1 27 j = 0 ∧ I1 28 j = 0) → pj_R (pj_D 0) ta mc_100 false Q 2 [some (.ref 18), some (.int (nI k))] [] (zc n) I1 J 0 0 from loop 3 0 rfl I (fun c j _ _ => rfl) (fun j hj => absurd hj (Nat.not_lt_zero _))
  intro r
  induction r with
  | zero =>
    intro k hk I1 f1 z1
    refine v100_2 (pj_D_le 0) I1 J _ (pk_le 3 k (fun _ => ?_) (fun c => by omega))
    refine q _ (fun c j h1 h2 h3 => ?_) ⟨?_, ?_, ?_, ?_, ?_⟩ (fun j hj => ⟨?_, ?_⟩)
    · rw [pj_u_n h1, pj_u_n h1, pj_u_n h1, pj_u_n h1, pj_u_n h1]; exact f1 c j h2 h3
    · rw [pj_u_j (by decide), pj_u_j (by decide), pj_u_j (by decide), pj_u_j (by decide), pj_u_e]
    · rw [pj_u_j (by decide), pj_u_j (by decide), pj_u_j (by decide), pj_u_e]
    · rw [pj_u_j (by decide), pj_u_j (by decide), pj_u_e]
    · rw [pj_u_j (by decide), pj_u_e]
    · exact pj_u_e
    · rw [pj_u_n (by decide), pj_u_n (by decide), pj_u_n (by decide), pj_u_n (by decide), pj_u_n (by decide)]; exact (z1 j (by omega)).1
    · rw [pj_u_n (by decide), pj_u_n (by decide), pj_u_n (by decide), pj_u_n (by decide), pj_u_n (by decide)]; exact (z1 j (by omega)).2
  | succ r ih =>
    intro k hk I1 f1 z1
    refine v100_2 (pj_D_le 0) I1 J _ ?_
    rw [nI_clamp (by omega), nI_1]
    refine pk_le 3 k (fun c => by omega) (fun c => ⟨pk_in k 3 (by omega), pk_in k 3 (by omega), ih (k + 1) (by omega) _ (fun c j h1 h2 => ?_) (fun j hj => ?_)⟩)
    · rw [pj_u_n h2, pj_u_n h1]; exact f1 c j h1 h2
    · by_cases e : j = k
      · subst e
        exact ⟨by rw [pj_u_n (by decide), pj_u_e], pj_u_e⟩
      · exact ⟨by rw [pj_u_n (by decide), pj_u_j e]; exact (z1 j (by omega)).1, by rw [pj_u_j e, pj_u_n (by decide)]; exact (z1 j (by omega)).2⟩
theorem f38x (hh : 71 ≤ h) {a : Sa} (hk : KS m f 80 (.ok a) I) (q : ∀ I', pj_fr sC I I' → KS m f 80 (.error (6, (sgn m f a.1).st)) I' → Q none (zc n, I', J)) : pj_D h 38 [.ref 31] (zc n, I, J) Q := by
  obtain ⟨⟨pg, hs⟩, kb, hc⟩ := hk
  have hs : RS m f pg 0 (.ok (a.1, a.2.2)) I := hs
  refine pj_ent (g := 70) hh (t := mt_38) rfl rfl (v38_0 (pj_D_le 70) I J (br_f (by rw [kb.1]; decide) ?_))
  rw [hs.2.2.1.2.1]
  exact f39 (a := 6) (by decide) (by decide) (by decide) hs (fun I1 f1 s1 => kV_i (q I1 (sC_w f1) (KS_er s1 (KB_e f1 kb))))
/-- Reading.readAll -/
theorem f36 (hh : 72 ≤ h) (hT : TC m f I) (ho : ∀ k, k < 22 → I 33 k = owC k) (q : ∀ I', pj_fr sC I I' → (∀ e, stl (sgn m f) 80 0 (0, W00, []) = .error e → ∃ pg, RS m f pg 0 (.error e) I') → (∀ c b, stl (sgn m f) 80 0 (0, W00, []) = .ok (c, b) → KS m f c (.ok b) I') → Q none (zc n, I', J)) : pj_D h 36 [.ref 31] (zc n, I, J) Q := by
  refine pj_ent (g := 71) hh (t := mt_36) rfl rfl (v36_0 (pj_D_le 71) I J (s100 (by decide) (fun I1 f1 z1 y1 => kV_i ?_)))
  have er : ∀ e I3 k pg, pj_fr sC I I3 → stl (sgn m f) 80 0 (0, W00, []) = .error e → RS m f pg 0 (.error e) I3 → pj_R (pj_D 71) ta mc_36 false Q 31 [some (.ref 31), some (.int k)] [] (zc n) I3 J 0 0 := fun e I3 k pg f3 u s3 => by
    have fin : Q none (zc n, I3, J) := q I3 f3 (fun e' u' => by rw [u] at u'; cases u'; exact ⟨pg, s3⟩) (fun c b u' => by rw [u] at u'; cases u')
    exact v36_31 (pj_D_le 71) I3 J _ ⟨fun _ => fin, fun _ => f37 (by decide) s3 (kI_i ⟨fun _ => fin, fun z => absurd z erN⟩)⟩
  have loop : ∀ r ct a I2, r + ct = 80 → pj_fr sC I I2 → KS m f ct (.ok a) I2 → SV a → stl (sgn m f) 80 0 (0, W00, []) = stl (sgn m f) r ct a → pj_R (pj_D 71) ta mc_36 false Q 31 [some (.ref 31), some (.int (nI ct))] [] (zc n) I2 J 0 0 := by
    intro r
    induction r with
    | zero =>
      intro ct a I2 hr f2 k2 v2 u
      obtain ⟨pg, s2⟩ := k2.1
      have s2 : RS m f pg 0 (.ok (a.1, a.2.2)) I2 := s2
      have kv := sgn_kv (m := m) (f := f) (p := a.1) (fun k hk => (s2.1.1.2.2 k hk).2)
      have ct8 : ct = 80 := by omega
      subst ct8
      have e0 : (I2 32 2 = 0) ↔ (sgn m f a.1).k = 0 := by rw [show I2 32 2 = nI (sgn m f a.1).k from s2.2.2.1.1]; exact nI_eq (b := 0) (by omega) (by decide)
      refine v36_31 (pj_D_le 71) I2 J _ (br_f (by decide) (f37 (by decide) s2 (kI_i ⟨fun z => absurd rfl z, fun _ => ?_⟩)))
      rw [e0]
      by_cases k0 : (sgn m f a.1).k = 0
      · have u : stl (sgn m f) 80 0 (0, W00, []) = .ok (80, a) := u.trans (if_pos k0)
        exact br_t k0 (q I2 f2 (fun e u' => by rw [u] at u'; cases u') (fun c b u' => by rw [u] at u'; cases u'; exact k2))
      · have u : stl (sgn m f) 80 0 (0, W00, []) = .error (6, (sgn m f a.1).st) := u.trans (if_neg k0)
        refine br_f k0 (f38x (by decide) k2 (fun I3 f3 k3 => kV_i ?_))
        obtain ⟨pg3, s3⟩ := k3.1
        exact er _ I3 _ pg3 (pj_fr_tr f2 f3) u s3
    | succ r ih =>
      intro ct a I2 hr f2 k2 v2 u
      obtain ⟨pg, s2⟩ := k2.1
      have s2 : RS m f pg 0 (.ok (a.1, a.2.2)) I2 := s2
      have kv := sgn_kv (m := m) (f := f) (p := a.1) (fun k hk => (s2.1.1.2.2 k hk).2)
      have e0 : (I2 32 2 = 0) ↔ (sgn m f a.1).k = 0 := by rw [show I2 32 2 = nI (sgn m f a.1).k from s2.2.2.1.1]; exact nI_eq (b := 0) (by omega) (by decide)
      refine v36_31 (pj_D_le 71) I2 J _ (br_f (nI_nlt (b := ct) (a := 80) (by omega) (by decide)) (f37 (by decide) s2 (kI_i ⟨fun z => absurd rfl z, fun _ => ?_⟩)))
      rw [e0, nI_1]
      by_cases k0 : (sgn m f a.1).k = 0
      · have u : stl (sgn m f) 80 0 (0, W00, []) = .ok (ct, a) := u.trans (if_pos k0)
        exact br_t k0 (q I2 f2 (fun e u' => by rw [u] at u'; cases u') (fun c b u' => by rw [u] at u'; cases u'; exact k2))
      · have u : stl (sgn m f) 80 0 (0, W00, []) = bd (stf (sgn m f) a) (stl (sgn m f) r (ct + 1)) := u.trans (if_neg k0)
        refine br_f k0 (f38 (by decide) (by omega) k2 v2 (fun I3 f3 k3 => kV_i ?_))
        cases e1 : stf (sgn m f) a with
        | error e =>
          rw [e1] at u k3
          obtain ⟨pg3, s3⟩ := k3.1
          exact er e I3 _ pg3 (pj_fr_tr f2 f3) u s3
        | ok b =>
          rw [e1] at u k3
          exact ih (ct + 1) b I3 (by omega) (pj_fr_tr f2 f3) k3 (stf_v v2 e1) u
  have g1 : ∀ c j, c ≠ 18 → c ≠ 27 → c ≠ 28 → c ≠ 31 → (pj_u (pj_u (pj_u I1 31 2 0) 31 3 (-1)) 31 4 0) c j = I c j := fun c j h1 h2 h3 h4 => by rw [pj_u_n h4, pj_u_n h4, pj_u_n h4]; exact f1 c j h1 h2 h3
  have T1 : TC m f (pj_u (pj_u (pj_u I1 31 2 0) 31 3 (-1)) 31 4 0) := TC_fr (fun c j hc => g1 c j (by omega) (by omega) (by omega) (by omega)) hT
  have w1 : ∀ k, k < 22 → (pj_u (pj_u (pj_u I1 31 2 0) 31 3 (-1)) 31 4 0) 33 k = owC k := fun k hk => (g1 33 k (by decide) (by decide) (by decide) (by decide)).trans (ho k hk)
  refine s64 (by decide) T1 w1 (fun I2 f2 t2 => kV_i ?_)
  have fs : pj_fr sC I I2 := fun c j hc => by
    have := sC_f hc
    rw [f2 c j (beq_eq_false_iff_ne.mpr (by omega))]
    exact g1 c j (by omega) (by omega) (by omega) (by omega)
  have h18 : ∀ j, I2 18 j = I1 18 j := fun j => by rw [f2 18 j rfl, pj_u_n (by decide), pj_u_n (by decide), pj_u_n (by decide)]
  have h27 : ∀ c j, c = 27 ∨ c = 28 → I2 c j = I1 c j := fun c j hc => by rw [f2 c j (beq_eq_false_iff_ne.mpr (by omega)), pj_u_n (by omega), pj_u_n (by omega), pj_u_n (by omega)]
  obtain ⟨pg, hpg⟩ := nI_all (I2 31 5)
  have e2 : I2 31 2 = 0 := by rw [f2 31 2 rfl, pj_u_j (by decide), pj_u_j (by decide), pj_u_e]
  have e3 : I2 31 3 = -1 := by rw [f2 31 3 rfl, pj_u_j (by decide), pj_u_e]
  have e4 : I2 31 4 = 0 := by rw [f2 31 4 rfl, pj_u_e]
  refine loop 80 0 (0, W00, []) I2 rfl fs ⟨⟨pg, ?_⟩, ⟨(h18 16).trans z1.2.2.2.2, 0, 0, by decide, by decide, (h18 12).trans z1.1, (h18 13).trans z1.2.1⟩, fun a ea => ?_⟩ ⟨WV_0, Nat.le_refl _, Nat.zero_le _, Nat.zero_le _⟩ rfl
  · exact ⟨⟨TC_z f2 T1, fun k hk => (f2 33 k rfl).trans (w1 k hk), hpg, 0, by decide, (h18 14).trans z1.2.2.1, fun _ => e3⟩, e2, t2, Nat.zero_le _, e4, (h18 14).trans z1.2.2.1, Nat.zero_le _, trivial⟩
  · cases ea
    exact ⟨⟨Nat.zero_le _, Nat.zero_le _, (h18 12).trans z1.1, (h18 13).trans z1.2.1, fun k hk => absurd hk (Nat.not_lt_zero _)⟩, fun p hp => ⟨(h27 27 p (Or.inl rfl)).trans (y1 p hp).1, (h27 28 p (Or.inr rfl)).trans (y1 p hp).2⟩, (h18 15).trans z1.2.2.2.1, fun k hk => absurd hk (Nat.not_lt_zero _), fun k hk => absurd hk (Nat.not_lt_zero _)⟩
/-- Works.copyFrom -/
theorem s104 (hh : 1 ≤ h) {cd : Nat} (h14 : I 18 14 = nI cd) (hcd : cd ≤ 1600) (q : ∀ I', (∀ c j, c < 5 ∨ 15 < c → I' c j = I c j) → (∀ j, j = 12 ∨ j = 13 ∨ j = 15 ∨ j = 16 → I' 5 j = I 18 j) → (∀ j, j < 8 → I' 6 j = I 19 j ∧ I' 7 j = I 20 j ∧ I' 8 j = I 21 j) → (∀ j, j < 7 → I' 9 j = I 22 j ∧ I' 10 j = I 23 j ∧ I' 11 j = I 24 j ∧ I' 12 j = I 25 j) → (∀ j, j < cd → I' 13 j = I 26 j) → (∀ j, j < 3 → I' 14 j = I 27 j ∧ I' 15 j = I 28 j) → Q none (zc n, I', J)) : pj_D h 104 [.ref 5, .ref 18] (zc n, I, J) Q := by
  refine pj_ent (g := 0) hh (t := mt_104) rfl rfl (v104_0 (pj_D_le 0) I J ?_)
  rw [h14, nI_clamp (by omega)]
  refine ⟨⟨by decide, by decide, nI_pos (by omega), by omega, by omega⟩, q _ (fun c j hc => ?_) (fun j hj => ?_) (fun j hj => ⟨?_, ?_, ?_⟩) (fun j hj => ⟨?_, ?_, ?_, ?_⟩) (fun j hj => ?_) (fun j hj => ⟨?_, ?_⟩)⟩
  · rw [pj_u_n (by omega), pj_u_n (by omega), pj_u_n (by omega), pj_u_n (by omega), pj_u_n (by omega), cp_n (by omega), cp_n (by omega), cp_n (by omega), cp_n (by omega), cp_n (by omega), cp_n (by omega), cp_n (by omega), cp_n (by omega), cp_n (by omega), cp_n (by omega)]
  · rcases hj with rfl | rfl | rfl | rfl
    · rw [pj_u_j (by decide), pj_u_j (by decide), pj_u_j (by decide), pj_u_j (by decide), pj_u_e]
    · rw [pj_u_j (by decide), pj_u_j (by decide), pj_u_j (by decide), pj_u_e]
    · rw [pj_u_j (by decide), pj_u_e]
    · rw [pj_u_e]
  · rw [pj_u_n (by decide), pj_u_n (by decide), pj_u_n (by decide), pj_u_n (by decide), pj_u_n (by decide), cp_n (by decide), cp_n (by decide), cp_n (by decide), cp_n (by decide), cp_n (by decide), cp_n (by decide), cp_n (by decide), cp_n (by decide), cp_n (by decide), cp_in hj]
  · rw [pj_u_n (by decide), pj_u_n (by decide), pj_u_n (by decide), pj_u_n (by decide), pj_u_n (by decide), cp_n (by decide), cp_n (by decide), cp_n (by decide), cp_n (by decide), cp_n (by decide), cp_n (by decide), cp_n (by decide), cp_n (by decide), cp_in hj, cp_n (by decide)]
  · rw [pj_u_n (by decide), pj_u_n (by decide), pj_u_n (by decide), pj_u_n (by decide), pj_u_n (by decide), cp_n (by decide), cp_n (by decide), cp_n (by decide), cp_n (by decide), cp_n (by decide), cp_n (by decide), cp_n (by decide), cp_in hj, cp_n (by decide), cp_n (by decide)]
  · rw [pj_u_n (by decide), pj_u_n (by decide), pj_u_n (by decide), pj_u_n (by decide), pj_u_n (by decide), cp_n (by decide), cp_n (by decide), cp_n (by decide), cp_n (by decide), cp_n (by decide), cp_n (by decide), cp_in hj, cp_n (by decide), cp_n (by decide), cp_n (by decide)]
  · rw [pj_u_n (by decide), pj_u_n (by decide), pj_u_n (by decide), pj_u_n (by decide), pj_u_n (by decide), cp_n (by decide), cp_n (by decide), cp_n (by decide), cp_n (by decide), cp_n (by decide), cp_in hj, cp_n (by decide), cp_n (by decide), cp_n (by decide), cp_n (by decide)]
  · rw [pj_u_n (by decide), pj_u_n (by decide), pj_u_n (by decide), pj_u_n (by decide), pj_u_n (by decide), cp_n (by decide), cp_n (by decide), cp_n (by decide), cp_n (by decide), cp_in hj, cp_n (by decide), cp_n (by decide), cp_n (by decide), cp_n (by decide), cp_n (by decide)]
  · rw [pj_u_n (by decide), pj_u_n (by decide), pj_u_n (by decide), pj_u_n (by decide), pj_u_n (by decide), cp_n (by decide), cp_n (by decide), cp_n (by decide), cp_in hj, cp_n (by decide), cp_n (by decide), cp_n (by decide), cp_n (by decide), cp_n (by decide), cp_n (by decide)]
  · rw [pj_u_n (by decide), pj_u_n (by decide), pj_u_n (by decide), pj_u_n (by decide), pj_u_n (by decide), cp_n (by decide), cp_n (by decide), cp_in hj, cp_n (by decide), cp_n (by decide), cp_n (by decide), cp_n (by decide), cp_n (by decide), cp_n (by decide), cp_n (by decide)]
  · rw [pj_u_n (by decide), pj_u_n (by decide), pj_u_n (by decide), pj_u_n (by decide), pj_u_n (by decide), cp_n (by decide), cp_in hj, cp_n (by decide), cp_n (by decide), cp_n (by decide), cp_n (by decide), cp_n (by decide), cp_n (by decide), cp_n (by decide), cp_n (by decide)]
  · rw [pj_u_n (by decide), pj_u_n (by decide), pj_u_n (by decide), pj_u_n (by decide), pj_u_n (by decide), cp_in hj, cp_n (by decide), cp_n (by decide), cp_n (by decide), cp_n (by decide), cp_n (by decide), cp_n (by decide), cp_n (by decide), cp_n (by decide), cp_n (by decide)]
end PKw
