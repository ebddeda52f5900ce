/-! the class's scanner -/
def SCs (t : Sg) (I : Nat → Nat → Int32) : Prop := I 32 2 = nI t.k ∧ I 32 5 = nI t.st ∧ I 32 6 = nI t.pl ∧ (t.k = 1 ∨ t.k = 2 ∨ t.k = 3 → I 32 7 = nI t.nx) ∧ I 32 4 = wo (own t) ∧ (t.k = 1 → I 32 3 = nmC t.ls) ∧ (t.k = 2 ∨ t.k = 3 → I 32 3 = nI t.v)
theorem SCs_fr {t : Sg} {I I' : Nat → Nat → Int32} (hf : ∀ j, I' 32 j = I 32 j) (h : SCs t I) : SCs t I' := by
  unfold SCs at h ⊢
  simp only [hf]
  exact h
def zS : Nat → Nat → Bool := fun c _ => c == 32
theorem TC_fr {m : Nat} {f : Nat → Nat} {I I' : Nat → Nat → Int32} (hf : ∀ c j, c = 3 ∨ c = 4 → I' c j = I c j) (h : TC m f I) : TC m f I' := ⟨h.1, (hf _ _ (Or.inl rfl)).trans h.2.1, fun k hk => ⟨(hf _ _ (Or.inr rfl)).trans (h.2.2 k hk).1, (h.2.2 k hk).2⟩⟩
def kdo (c : Nat) : Nat := if isl c = true then 1 else if isd c = true then 2 else 3
section PCs
variable {n h : Nat} {Q : pj_K} {I : Nat → Nat → Int32} {J : Nat → Nat → Int64} {m : Nat} {f : Nat → Nat}
theorem TC_z {I' : Nat → Nat → Int32} (hf : pj_fr zS I I') (h : TC m f I) : TC m f I' := TC_fr (fun c j hc => hf c j (beq_eq_false_iff_ne.mpr (by omega))) h
theorem s66 (hh : 1 ≤ h) {c : Nat} (hc : c < 256) (q : Q (some (.int (bi (blk c)))) (zc n, I, J)) : pj_D h 66 [.int (nI c)] (zc n, I, J) Q := by
  refine pj_ent (g := 0) hh (t := mt_66) rfl rfl (v66_0 (pj_D_le 0) I J _ ?_)
  have e1 : (nI c = 10) ↔ c = 10 := nI_eq (b := 10) (by omega) (by decide)
  have e2 : (nI c = 32) ↔ c = 32 := nI_eq (b := 32) (by omega) (by decide)
  rw [e1, e2]
  unfold blk at q
  refine ⟨fun z => ?_, fun z => ⟨fun y => ?_, fun y => ?_⟩⟩
  · rw [z] at q; exact q
  · rw [beq_eq_false_iff_ne.mpr y, beq_eq_false_iff_ne.mpr z] at q; exact q
  · rw [y] at q; exact q
theorem s66n (hh : 1 ≤ h) (q : Q (some (.int 0)) (zc n, I, J)) : pj_D h 66 [.int (-1)] (zc n, I, J) Q :=
  pj_ent (g := 0) hh (t := mt_66) rfl rfl (v66_0 (pj_D_le 0) I J _ ⟨fun z => absurd z (by decide), fun _ => ⟨fun _ => q, fun y => absurd y (by decide)⟩⟩)
theorem s67n (hh : 1 ≤ h) (q : Q (some (.int 0)) (zc n, I, J)) : pj_D h 67 [.int (-1)] (zc n, I, J) Q :=
  pj_ent (g := 0) hh (t := mt_67) rfl rfl (v67_0 (pj_D_le 0) I J _ ⟨fun z => absurd rfl z, fun _ => q⟩)
theorem s67 (hh : 1 ≤ h) {c : Nat} (hc : c < 256) (q : Q (some (.int (nI (kdo c)))) (zc n, I, J)) : pj_D h 67 [.int (nI c)] (zc n, I, J) Q := by
  refine pj_ent (g := 0) hh (t := mt_67) rfl rfl (v67_0 (pj_D_le 0) I J _ ?_)
  have e0 : ¬ nI c = -1 := fun z => by
    have a : ¬ nI c < 0 := nI_nlt (a := c) (b := 0) (Nat.zero_le _) (by omega)
    rw [z] at a
    exact a (by decide)
  have dg : ¬ isl c = true → (nI c < 48 → Q (some (.int 3)) (zc n, I, J)) ∧ (¬ nI c < 48 → ((57 < nI c → Q (some (.int 3)) (zc n, I, J)) ∧ (¬ 57 < nI c → Q (some (.int 2)) (zc n, I, J)))) := fun hl => by
    unfold kdo at q
    rw [if_neg hl] at q
    refine pk_lt c 48 (fun d => ?_) (fun d => pk_lt 57 c (fun e => ?_) (fun e => ?_))
    · rw [if_neg (by unfold isd; rw [Bool.and_eq_true, Nat.ble_eq, Nat.ble_eq]; omega)] at q; exact q
    · rw [if_neg (by unfold isd; rw [Bool.and_eq_true, Nat.ble_eq, Nat.ble_eq]; omega)] at q; exact q
    · rw [if_pos (by unfold isd; rw [Bool.and_eq_true, Nat.ble_eq, Nat.ble_eq]; omega)] at q; exact q
  refine ⟨fun _ => pk_lt c 97 (fun d => dg ?_) (fun d => pk_lt 122 c (fun e => dg ?_) (fun e => ?_)), fun z => absurd z e0⟩
  · unfold isl; rw [Bool.and_eq_true, Nat.ble_eq, Nat.ble_eq]; omega
  · unfold isl; rw [Bool.and_eq_true, Nat.ble_eq, Nat.ble_eq]; omega
  · unfold kdo at q
    rw [if_pos (by unfold isl; rw [Bool.and_eq_true, Nat.ble_eq, Nat.ble_eq]; omega)] at q
    exact q
/-- Scanner.ownWord -/
theorem s68 (hh : 1 ≤ h) {p : Int32} (q : Q (some (.int (wo (ff (fun k => decide (I 33 k = p)) 22 0)))) (zc n, I, J)) : pj_D h 68 [.ref 32, .int p] (zc n, I, J) Q := by
  refine pj_ent (g := 0) hh (t := mt_68) rfl rfl (v68_0 (pj_D_le 0) I J _ ?_)
  suffices loop : ∀ r k, r + k = 22 → Q (some (.int (wo (ff (fun k => decide (I 33 k = p)) r k)))) (zc n, I, J) → pj_R (pj_D 0) ta mc_68 false Q 2 [some (.ref 32), some (.int p), some (.int (nI k))] [] (zc n) I J 0 0 from loop 22 0 rfl q
  intro r
  induction r with
  | zero =>
    intro k hk q
    obtain rfl : k = 22 := by omega
    exact v68_2 (pj_D_le 0) I J _ _ (br_t (by decide) q)
  | succ r ih =>
    intro k hk q
    refine v68_2 (pj_D_le 0) I J _ _ (br_f (nI_ge (b := 22) (by omega) (by omega)) ⟨pk_in k 22 (by omega), ?_⟩)
    rw [nI_clamp (n := k) (by omega), nI_1 k]
    unfold ff at q
    by_cases e : I 33 k = p
    · rw [decide_eq_true e] at q
      exact ⟨fun z => absurd e z, fun _ => q⟩
    · rw [decide_eq_false e] at q
      exact ⟨fun _ => ih (k + 1) (by omega) q, fun z => absurd z e⟩
theorem s69 (hh : 1 ≤ h) {t : Sg} {c : Nat} (ht : SCs t I) (hk : t.k ≤ 4) (hv : t.v < 2 ^ 31) (hc : c < 2 ^ 31) (q : Q (some (.int (bi (isS t c)))) (zc n, I, J)) : pj_D h 69 [.ref 32, .int (nI c)] (zc n, I, J) Q := by
  refine pj_ent (g := 0) hh (t := mt_69) rfl rfl (v69_0 (pj_D_le 0) I J _ ?_)
  have e1 : (nI t.k = 3) ↔ t.k = 3 := nI_eq (b := 3) (by omega) (by decide)
  rw [ht.1, e1]
  unfold isS at q
  refine ⟨fun z => ?_, fun z => ?_⟩
  · rw [beq_eq_false_iff_ne.mpr z] at q; exact q
  · rw [ht.2.2.2.2.2.2 (Or.inr z), nI_eq hv hc]
    refine ⟨fun y => ?_, fun y => ?_⟩
    · rw [beq_eq_false_iff_ne.mpr y, Bool.and_false] at q; exact q
    · rw [show (t.k == 3 && t.v == c) = true by rw [z, y]; simp] at q; exact q
theorem s69j (hh : 1 ≤ h) {c : Int32} (q : ∀ v, Q (some (.int v)) (zc n, I, J)) : pj_D h 69 [.ref 32, .int c] (zc n, I, J) Q :=
  pj_ent (g := 0) hh (t := mt_69) rfl rfl (v69_0 (pj_D_le 0) I J _ ⟨fun _ => q _, fun _ => ⟨fun _ => q _, fun _ => q _⟩⟩)
/-- Tape.at anywhere -/
theorem s85j (hh : 1 ≤ h) (hT : TC m f I) {p : Int32} (q : ∀ v, (v = -1 ∧ ∀ k, k < m → p ≠ nI k) ∨ (∃ k, k < m ∧ p = nI k ∧ v = nI (f k)) → Q (some (.int v)) (zc n, I, J)) : pj_D h 85 [.ref 3, .int p] (zc n, I, J) Q := by
  have hm := hT.1
  by_cases c : p < 0
  · refine pj_ent (g := 0) hh (t := mt_85) rfl rfl (v85_0 (pj_D_le 0) I J _ ⟨fun _ => q _ (Or.inl ⟨rfl, fun k hk e => ?_⟩), fun z => absurd c z⟩)
    rw [e] at c
    exact nI_nlt (a := k) (b := 0) (Nat.zero_le _) (by omega) c
  · obtain ⟨k, hk, rfl⟩ := nI_of c
    refine s85 hh hT.2.1 hm hk ?_
    by_cases d : k < m
    · rw [if_pos d, (hT.2.2 k d).1]
      exact q _ (Or.inr ⟨k, d, rfl, rfl⟩)
    · rw [if_neg d]
      exact q _ (Or.inl ⟨rfl, fun j hj e => d (by rw [(nI_eq hk (by omega)).mp e]; exact hj)⟩)
/-- Scanner.advance, wherever it is -/
theorem s65j (hh : 2 ≤ h) (hT : TC m f I) (q : ∀ I', pj_fr zS I I' → Q none (zc n, I', J)) : pj_D h 65 [.ref 32] (zc n, I, J) Q := by
  have hm := hT.1
  have zu : ∀ {I' : Nat → Nat → Int32} {j : Nat} {v : Int32}, pj_fr zS I I' → pj_fr zS I (pj_u I' 32 j v) := fun hf => pj_fr_u hf rfl
  have fin : ∀ I', pj_fr zS I I' → pj_R (pj_D 1) ta mc_65 false Q 380 [none, none, none, none, none] [] (zc n) I' J 0 0 := fun I' hf => w65_380 (pj_D_le 1) I' J (q I' hf)
  have p294 : ∀ (a b : Int32) I', pj_fr zS I I' → pj_R (pj_D 1) ta mc_65 false Q 294 [some (.ref 32), none, some (.int a), some (.int b), none] [] (zc n) I' J 0 0 := fun a b I' hf => by
    have p315 : pj_R (pj_D 1) ta mc_65 false Q 315 [some (.ref 32), none, some (.int a), some (.int b), none] [] (zc n) I' J 0 0 := w65_315 (pj_D_le 1) I' J _ _ ⟨fun _ => fin _ (zu (zu hf)), fun _ => fin _ (zu (zu hf))⟩
    exact w65_294 (pj_D_le 1) I' J _ _ ⟨fun _ => p315, fun _ => ⟨fun _ => ⟨fun _ => fin _ hf, fun _ => s68 (by decide) (kI_i (fin _ (zu (zu hf))))⟩, fun _ => p315⟩⟩
  have p173 : ∀ (a b : Int32) r I', pj_fr zS I I' → (I' 32 2 = 1 ∨ I' 32 2 = 2) → (∀ k, k < m → I' 32 7 = nI k → m - k ≤ r) → pj_R (pj_D 1) ta mc_65 false Q 173 [some (.ref 32), none, some (.int a), some (.int b), none] [] (zc n) I' J 0 0 := by
    intro a b r
    induction r with
    | zero =>
      intro I' hf hk hr
      refine w65_173 (pj_D_le 1) I' J _ _ ⟨fun _ => p294 a b I' hf, fun _ => ⟨fun _ => p294 a b I' hf, fun _ => s85j (by decide) (TC_z hf hT) (fun v hv => kI_i ?_)⟩⟩
      rcases hv with ⟨rfl, -⟩ | ⟨k, h1, h2, -⟩
      · refine s67n (by decide) (kI_i ⟨fun _ => p294 a b I' hf, fun z => ?_⟩)
        rcases hk with y | y <;> (rw [y] at z; exact absurd z (by decide))
      · have := hr k h1 h2
        omega
    | succ r ih =>
      intro I' hf hk hr
      refine w65_173 (pj_D_le 1) I' J _ _ ⟨fun _ => p294 a b I' hf, fun _ => ⟨fun _ => p294 a b I' hf, fun _ => s85j (by decide) (TC_z hf hT) (fun v hv => kI_i ?_)⟩⟩
      rcases hv with ⟨rfl, -⟩ | ⟨k, h1, h2, h3⟩
      · refine s67n (by decide) (kI_i ⟨fun _ => p294 a b I' hf, fun z => ?_⟩)
        rcases hk with y | y <;> (rw [y] at z; exact absurd z (by decide))
      · subst h3
        have nx : ∀ x, pj_R (pj_D 1) ta mc_65 false Q 173 [some (.ref 32), none, some (.int a), some (.int b), none] [] (zc n) (pj_u (pj_u I' 32 3 x) 32 7 (I' 32 7 + 1)) J 0 0 := fun x => by
          refine ih _ (zu (zu hf)) ?_ (fun k' h4 h5 => ?_)
          · rw [pj_u_j (by decide), pj_u_j (by decide)]; exact hk
          · rw [pj_u_e, h2, nI_1 k] at h5
            have := (nI_eq (by omega) (by omega)).mp h5
            have := hr k h1 h2
            omega
        refine s67 (by decide) (hT.2.2 k h1).2 (kI_i ⟨fun _ => p294 a b I' hf, fun _ => ⟨fun _ => s85j (by decide) (TC_z hf hT) (fun v _ => kI_i (nx _)), fun _ => s85j (by decide) (TC_z hf hT) (fun v _ => kI_i (nx _))⟩⟩)
  have big : ∀ I' : Nat → Nat → Int32, ∀ k, k < m → I' 32 7 = nI k → m - k ≤ m := fun I' k _ _ => Nat.sub_le _ _
  have p153 : ∀ (a : Int32) I', pj_fr zS I I' → (I' 32 2 = 1 ∨ I' 32 2 = 2) → pj_R (pj_D 1) ta mc_65 false Q 153 [some (.ref 32), none, some (.int a), none, none] [] (zc n) I' J 0 0 := fun a I' hf hk => by
    have hk' : pj_u I' 32 3 0 32 2 = 1 ∨ pj_u I' 32 3 0 32 2 = 2 := by rw [pj_u_j (by decide)]; exact hk
    exact w65_153 (pj_D_le 1) I' J _ ⟨fun _ => p173 _ _ m _ (zu hf) hk' (big _), fun _ => p173 _ _ m _ (zu hf) hk' (big _)⟩
  have mid : ∀ (a v : Int32) (I' : Nat → Nat → Int32), pj_fr zS I I' → (v = -1 ∨ ∃ k, k < m ∧ v = nI (f k)) → pj_D 1 67 [.int v] (zc n, I', J) (kI n fun v2 I2 J2 => ((v2 = 1 → pj_R (pj_D 1) ta mc_65 false Q 153 [some (.ref 32), none, some (.int a), none, none] [] (zc n) (pj_u I2 32 2 v2) J2 0 0) ∧ (¬ v2 = 1 → ((v2 = 2 → pj_R (pj_D 1) ta mc_65 false Q 153 [some (.ref 32), none, some (.int a), none, none] [] (zc n) (pj_u I2 32 2 v2) J2 0 0) ∧ (¬ v2 = 2 → Q none (zc n, (pj_u (pj_u I2 32 2 v2) 32 7 ((I2 32 7) + 1)), J2)))))) := fun a v I' hf hv => by
    rcases hv with rfl | ⟨k, h1, rfl⟩
    · exact s67n (by decide) (kI_i ⟨fun z => absurd z (by decide), fun _ => ⟨fun z => absurd z (by decide), fun _ => q _ (zu (zu hf))⟩⟩)
    · exact s67 (by decide) (hT.2.2 k h1).2 (kI_i ⟨fun z => p153 a _ (zu hf) (Or.inl (by rw [pj_u_e]; exact z)), fun _ => ⟨fun z => p153 a _ (zu hf) (Or.inr (by rw [pj_u_e]; exact z)), fun _ => q _ (zu (zu hf))⟩⟩)
  have cv : ∀ {v p : Int32}, ((v = -1 ∧ ∀ k, k < m → p ≠ nI k) ∨ (∃ k, k < m ∧ p = nI k ∧ v = nI (f k))) → (v = -1 ∨ ∃ k, k < m ∧ v = nI (f k)) := fun h => by
    rcases h with h | ⟨k, h1, -, h3⟩
    · exact Or.inl h.1
    · exact Or.inr ⟨k, h1, h3⟩
  have p73 : ∀ I', pj_fr zS I I' → pj_R (pj_D 1) ta mc_65 false Q 73 [some (.ref 32), none, none, none, none] [] (zc n) I' J 0 0 := fun I' hf =>
    w65_73 (pj_D_le 1) I' J (s85j (by decide) (TC_z (zu (zu (zu hf))) hT) (fun v hv => kI_i (mid 1 v _ (zu (zu (zu (zu hf)))) (cv hv))))
  have p77 : ∀ I', pj_fr zS I I' → pj_R (pj_D 1) ta mc_65 false Q 77 [some (.ref 32), none, none, none, none] [] (zc n) I' J 0 0 := fun I' hf =>
    w65_77 (pj_D_le 1) I' J (s85j (by decide) (TC_z (zu (zu (zu hf))) hT) (fun v hv => kI_i (mid 0 v _ (zu (zu (zu (zu hf)))) (cv hv))))
  have p49 : ∀ (a : Int32) I', pj_fr zS I I' → pj_R (pj_D 1) ta mc_65 false Q 49 [some (.ref 32), some (.int a), none, none, none] [] (zc n) I' J 0 0 := fun a I' hf =>
    w65_49 (pj_D_le 1) I' J _ ⟨fun _ => p77 I' hf, fun _ => ⟨fun _ => p73 I' hf, fun _ => ⟨fun _ => p77 I' hf, fun _ => p73 I' hf⟩⟩⟩
  refine pj_ent (g := 1) hh (t := mt_65) rfl rfl (w65_0 (pj_D_le 1) I J ?_)
  suffices p5 : ∀ r I', pj_fr zS I I' → (∀ k, k < m → I' 32 7 = nI k → m - k ≤ r) → pj_R (pj_D 1) ta mc_65 false Q 5 [some (.ref 32), some (.int (I 32 7)), none, none, none] [] (zc n) I' J 0 0 from p5 m I pj_fr_rf (big I)
  intro r
  induction r with
  | zero =>
    intro I' hf hr
    refine w65_5 (pj_D_le 1) I' J _ ⟨fun _ => p49 _ I' hf, fun _ => s85j (by decide) (TC_z hf hT) (fun v hv => kI_i ?_)⟩
    rcases hv with ⟨rfl, -⟩ | ⟨k, h1, h2, -⟩
    · exact s66n (by decide) (kI_i ⟨fun _ => p49 _ I' hf, fun z => absurd rfl z⟩)
    · have := hr k h1 h2
      omega
  | succ r ih =>
    intro I' hf hr
    refine w65_5 (pj_D_le 1) I' J _ ⟨fun _ => p49 _ I' hf, fun _ => s85j (by decide) (TC_z hf hT) (fun v hv => kI_i ?_)⟩
    rcases hv with ⟨rfl, -⟩ | ⟨k, h1, h2, h3⟩
    · exact s66n (by decide) (kI_i ⟨fun _ => p49 _ I' hf, fun z => absurd rfl z⟩)
    · subst h3
      refine s66 (by decide) (hT.2.2 k h1).2 (kI_i ⟨fun _ => p49 _ I' hf, fun _ => ih _ (zu hf) (fun k' h4 h5 => ?_)⟩)
      rw [pj_u_e, h2, nI_1 k] at h5
      have := (nI_eq (by omega) (by omega)).mp h5
      have := hr k h1 h2
      omega
end PCs
