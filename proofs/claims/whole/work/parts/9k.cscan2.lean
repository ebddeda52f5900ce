/-! the class's scanner, where it stands well -/
theorem skb_j {f : Nat → Nat} : ∀ {r p : Nat}, skb f r p ≠ p → jnd f (skb f r p) = false
  | 0, p, h => absurd rfl h
  | r + 1, p, h => by
    unfold skb at h ⊢
    cases e : blk (f p) with
    | false => rw [e] at h; exact absurd rfl h
    | true =>
      rw [e] at h
      show jnd f (skb f r (p + 1)) = false
      by_cases c : skb f r (p + 1) = p + 1
      · rw [c]
        show (isl (f p) || isd (f p)) = false
        unfold blk at e
        rw [Bool.or_eq_true, beq_iff_eq, beq_iff_eq] at e
        rcases e with e | e <;> rw [e] <;> decide
      · exact skb_j c
theorem run_ge {f : Nat → Nat} {k : Nat → Bool} : ∀ {r p i : Nat}, i ≤ run f k r p → i < r → k (f (p + i)) = true → i + 1 ≤ run f k r p
  | 0, _, i, _, h, _ => absurd h (Nat.not_lt_zero _)
  | r + 1, p, i, h, hr, hk => by
    cases i with
    | zero => exact run_pos (Nat.succ_pos _) hk
    | succ i =>
      unfold run at h ⊢
      cases e : k (f p) with
      | false => rw [e] at h; exact absurd h (Nat.not_succ_le_zero _)
      | true =>
        rw [e] at h
        have h : i + 1 ≤ run f k r (p + 1) + 1 := h
        rw [show p + (i + 1) = p + 1 + i by omega] at hk
        have := run_ge (f := f) (k := k) (r := r) (p := p + 1) (i := i) (by omega) (by omega) hk
        show i + 1 + 1 ≤ run f k r (p + 1) + 1
        omega
theorem run_st {f : Nat → Nat} {k : Nat → Bool} {r p i : Nat} (h : i ≤ run f k r p) (hk : k (f (p + i)) = false) : i = run f k r p := by
  rcases Nat.lt_or_ge i (run f k r p) with c | c
  · rw [run_in c] at hk; cases hk
  · omega
theorem isl_b {c : Nat} : isl c = true ↔ 97 ≤ c ∧ c ≤ 122 := by unfold isl; rw [Bool.and_eq_true, Nat.ble_eq, Nat.ble_eq]
theorem isd_b {c : Nat} : isd c = true ↔ 48 ≤ c ∧ c ≤ 57 := by unfold isd; rw [Bool.and_eq_true, Nat.ble_eq, Nat.ble_eq]
theorem kdo_1 {c : Nat} : kdo c = 1 ↔ isl c = true := by
  unfold kdo
  split
  · exact ⟨fun _ => by assumption, fun _ => rfl⟩
  · split
    · exact ⟨fun h => (by cases h), fun h => absurd h (by assumption)⟩
    · exact ⟨fun h => (by cases h), fun h => absurd h (by assumption)⟩
theorem kdo_2 {c : Nat} : kdo c = 2 ↔ isd c = true := by
  unfold kdo
  split
  · rename_i a
    exact ⟨fun h => (by cases h), fun h => by rw [isl_b] at a; rw [isd_b] at h; omega⟩
  · split
    · exact ⟨fun _ => by assumption, fun _ => rfl⟩
    · exact ⟨fun h => (by cases h), fun h => absurd h (by assumption)⟩
theorem kdo_b (c : Nat) : 1 ≤ kdo c ∧ kdo c ≤ 3 := by
  unfold kdo
  split
  · omega
  · split <;> omega
theorem sgn_j {n : Nat} {f : Nat → Nat} {p : Nat} (h : (sgn n f p).k = 1 ∨ (sgn n f p).k = 2 ∨ (sgn n f p).k = 3) : jnd f (sgn n f p).nx = true ↔ (sgn n f p).k = 1 ∨ (sgn n f p).k = 2 := by
  unfold sgn sgq at h ⊢
  generalize skb f (n - p) p = q at h ⊢
  split at h
  · exact absurd h (by show ¬ (0 = 1 ∨ 0 = 2 ∨ 0 = 3); decide)
  · rename_i c0
    rw [if_neg c0]
    split at h
    · rename_i c1
      rw [if_pos c1]
      split at h
      · exact absurd h (by show ¬ (4 = 1 ∨ 4 = 2 ∨ 4 = 3); decide)
      · rename_i c2
        rw [if_neg c2]
        split at h
        · exact absurd h (by show ¬ (4 = 1 ∨ 4 = 2 ∨ 4 = 3); decide)
        · rename_i c3
          rw [if_neg c3]
          refine ⟨fun _ => Or.inl rfl, fun _ => ?_⟩
          show jnd f (q + run f isl (n - q) q) = true
          have r1 := run_pos (f := f) (k := isl) (r := n - q) (p := q) (by omega) c1
          obtain ⟨s, hs⟩ : ∃ s, run f isl (n - q) q = s + 1 := ⟨_, (Nat.succ_pred_eq_of_pos r1).symm⟩
          rw [hs]
          show (isl (f (q + s)) || isd (f (q + s))) = true
          rw [run_in (k := isl) (show s < run f isl (n - q) q by omega)]
          rfl
    · rename_i c1
      rw [if_neg c1]
      split at h
      · rename_i c4
        rw [if_pos c4]
        split at h
        · exact absurd h (by show ¬ (4 = 1 ∨ 4 = 2 ∨ 4 = 3); decide)
        · rename_i c2
          rw [if_neg c2]
          split at h
          · exact absurd h (by show ¬ (4 = 1 ∨ 4 = 2 ∨ 4 = 3); decide)
          · rename_i c3
            rw [if_neg c3]
            refine ⟨fun _ => Or.inr rfl, fun _ => ?_⟩
            show jnd f (q + run f isd (n - q) q) = true
            have r1 := run_pos (f := f) (k := isd) (r := n - q) (p := q) (by omega) c4
            obtain ⟨s, hs⟩ : ∃ s, run f isd (n - q) q = s + 1 := ⟨_, (Nat.succ_pred_eq_of_pos r1).symm⟩
            rw [hs]
            show (isl (f (q + s)) || isd (f (q + s))) = true
            rw [run_in (k := isd) (show s < run f isd (n - q) q by omega), Bool.or_true]
      · rename_i c4
        rw [if_neg c4]
        refine ⟨fun z => ?_, fun z => absurd z (by show ¬ (3 = 1 ∨ 3 = 2); decide)⟩
        have z : (isl (f q) || isd (f q)) = true := z
        rw [Bool.or_eq_true] at z
        rcases z with z | z
        · exact absurd z c1
        · exact absurd z c4
/-- letters read one by one -/
def lv5 (f : Nat → Nat) (q : Nat) : Nat → Nat
  | 0 => 0
  | i + 1 => 32 * lv5 f q i + (f (q + i) - 96)
theorem lts_s {f : Nat → Nat} : ∀ {i q : Nat}, lts f (i + 1) q = lts f i q ++ [f (q + i) - 96]
  | 0, q => rfl
  | i + 1, q => by
    show (f q - 96) :: lts f (i + 1) (q + 1) = (f q - 96) :: (lts f i (q + 1) ++ _)
    rw [lts_s (i := i) (q := q + 1), show q + 1 + i = q + (i + 1) by omega]
theorem lv5_e {f : Nat → Nat} {q : Nat} : ∀ {i : Nat}, (lts f i q).foldl (fun x y => 32 * x + y) 0 = lv5 f q i
  | 0 => rfl
  | i + 1 => by
    rw [lts_s, List.foldl_append, lv5_e (i := i)]
    rfl
theorem lv5_b {f : Nat → Nat} {q : Nat} : ∀ {i : Nat}, (∀ j, j < i → isl (f (q + j)) = true) → lv5 f q i + 1 ≤ 32 ^ i
  | 0, _ => Nat.le_refl _
  | i + 1, h => by
    have ih := lv5_b (f := f) (q := q) (i := i) (fun j hj => h j (by omega))
    have := isl_b.mp (h i (by omega))
    unfold lv5
    rw [Nat.pow_succ]
    omega
theorem or5 {a b : Nat} (ha : a < 2 ^ 25) (hb : b < 32) : (nI a <<< ((5 : Int32) &&& 31)) ||| nI b = nI (32 * a + b) := by
  rw [pk_shlN ((5 : Int32) &&& 31) 5 (by decide) (by omega), nb_or]
  have := Nat.two_pow_add_eq_or_of_lt (i := 5) (b := b) (by omega) a
  rw [Nat.mul_comm a, ← this]
theorem sh_m5 : ∀ i, i < 7 → 1 ≤ i → (((5 * (6 - nI i)) &&& 31 : Int32).toBitVec.smod 32).toNat = 5 * (6 - i) := by decide +kernel
section PCt
variable {n h : Nat} {Q : pj_K} {I : Nat → Nat → Int32} {J : Nat → Nat → Int64} {m : Nat} {f : Nat → Nat}
/-- Scanner.advance -/
theorem s65 (hh : 2 ≤ h) {p : Nat} (hT : TC m f I) (ho : ∀ k, k < 22 → I 33 k = owC k) (hp : p ≤ m) (hn : I 32 7 = nI p) (hj : jnd f p = true ↔ I 32 2 = 1 ∨ I 32 2 = 2) (q : ∀ I', pj_fr zS I I' → SCs (sgn m f p) I' → Q none (zc n, I', J)) : pj_D h 65 [.ref 32] (zc n, I, J) Q := by
  have hm := hT.1
  have g := skb_ge (f := f) (r := m - p) (p := p)
  have zu : ∀ {I' : Nat → Nat → Int32} {j : Nat} {v : Int32}, pj_fr zS I I' → pj_fr zS I (pj_u I' 32 j v) := fun hf => pj_fr_u hf rfl
  have fin : ∀ I', pj_fr zS I I' → SCs (sgn m f p) I' → pj_R (pj_D 1) ta mc_65 false Q 380 [none, none, none, none, none] [] (zc n) I' J 0 0 := fun I' hf hs => w65_380 (pj_D_le 1) I' J (q I' hf hs)
  unfold sgn at q fin
  have hjq : skb f (m - p) p ≠ p → jnd f (skb f (m - p) p) = false := skb_j
  refine pj_ent (g := 1) hh (t := mt_65) rfl rfl (w65_0 (pj_D_le 1) I J ?_)
  rw [hn]
  have p5 : ∀ r p', r + p' = m → p ≤ p' → skb f r p' = skb f (m - p) p → ∀ I', pj_fr zS I I' → I' 32 7 = nI p' → I' 32 2 = I 32 2 → (∀ I', pj_fr zS I I' → I' 32 7 = nI (skb f (m - p) p) → I' 32 2 = I 32 2 → pj_R (pj_D 1) ta mc_65 false Q 49 [some (.ref 32), some (.int (nI p)), none, none, none] [] (zc n) I' J 0 0) → pj_R (pj_D 1) ta mc_65 false Q 5 [some (.ref 32), some (.int (nI p)), none, none, none] [] (zc n) I' J 0 0 := by
    intro r
    induction r with
    | zero =>
      intro p' e1 e2 e3 I' hf h7 h2 K
      refine w65_5 (pj_D_le 1) I' J _ (br_t ?_ (K I' hf (by rw [h7, ← e3]; rfl) h2))
      rw [(TC_z hf hT).2.1, h7]
      exact nI_le (by omega) (by omega)
    | succ r ih =>
      intro p' e1 e2 e3 I' hf h7 h2 K
      refine w65_5 (pj_D_le 1) I' J _ (br_f ?_ ?_)
      · rw [(TC_z hf hT).2.1, h7]
        exact nI_ge (by omega) (by omega)
      · rw [h7]
        refine s85 (by decide) (TC_z hf hT).2.1 hm (by omega) (kI_i ?_)
        rw [if_pos (by omega), ((TC_z hf hT).2.2 p' (by omega)).1]
        refine s66 (by decide) (hT.2.2 p' (by omega)).2 (kI_i ?_)
        rw [show skb f (r + 1) p' = (match blk (f p') with | true => skb f r (p' + 1) | false => p') from rfl] at e3
        cases eb : blk (f p') with
        | false =>
          rw [eb] at e3
          have e3 : p' = skb f (m - p) p := e3
          refine br_t rfl (K I' hf (by rw [h7, ← e3]) h2)
        | true =>
          rw [eb] at e3
          have e3 : skb f r (p' + 1) = skb f (m - p) p := e3
          refine br_f (by decide) ?_
          rw [h7, nI_1 p']
          exact ih (p' + 1) (by omega) (by omega) e3 _ (zu hf) pj_u_e (by rw [pj_u_j (by decide)]; exact h2) K
  refine p5 (m - p) p (by omega) (Nat.le_refl _) rfl I pj_fr_rf hn rfl (fun I1 f1 g7 g2 => ?_)
  generalize skb f (m - p) p = u at q fin hjq g7 g
  clear p5
  -- behind the kind
  have p294 : ∀ (x M i : Nat) (I' : Nat → Nat → Int32), pj_fr zS I I' → (x = 1 ∧ M = 6 ∧ isl (f u) = true ∨ x = 2 ∧ M = 4 ∧ isl (f u) = false ∧ isd (f u) = true) → u < m → 1 ≤ i → i ≤ run f (if x = 1 then isl else isd) (m - u) u → i ≤ M + 1 → (i ≤ M → i = run f (if x = 1 then isl else isd) (m - u) u) → I' 32 7 = nI (u + i) → I' 32 5 = nI u → I' 32 6 = nI u → I' 32 4 = -1 → I' 32 2 = nI x → (i ≤ M → I' 32 3 = nI (if x = 1 then lv5 f u i else dgs f u i)) → pj_R (pj_D 1) ta mc_65 false Q 294 [some (.ref 32), none, some (.int (bi (jnd f u))), some (.int (nI M)), none] [] (zc n) I' J 0 0 := by
    intro x M i I' hf hx hu i1 i2 i3 i4 h7 h5 h6 h4 h2 h3
    have hM : M ≤ 6 := by omega
    have p315 : (jnd f u = true ∨ M < i) → pj_R (pj_D 1) ta mc_65 false Q 315 [some (.ref 32), none, some (.int (bi (jnd f u))), some (.int (nI M)), none] [] (zc n) I' J 0 0 := fun hw => by
      have own4 : ∀ t : Sg, t.k = 4 → wo (own t) = -1 := fun t ht => by unfold own; rw [if_neg (by rw [ht]; decide)]; rfl
      refine w65_315 (pj_D_le 1) I' J _ _ ⟨fun z => ?_, fun z => ?_⟩
      · have z : jnd f u = false := (bi_0 _).mp z
        have hw : M < i := by rcases hw with c | c; · rw [z] at c; cases c
                              · exact c
        refine fin _ (zu (zu hf)) ?_
        rw [h5, nI_add]
        rcases hx with ⟨rfl, rfl, l1⟩ | ⟨rfl, rfl, l1, l2⟩
        · have i2 : i ≤ run f isl (m - u) u := i2
          unfold sgq
          rw [if_neg (by omega), if_pos l1, if_neg (by rw [z]; decide), if_pos (by omega)]
          exact ⟨pj_u_e, (pj_u_j (by decide)).trans ((pj_u_j (by decide)).trans h5), (pj_u_j (by decide)).trans pj_u_e, fun w => absurd w (by show ¬ (4 = 1 ∨ 4 = 2 ∨ 4 = 3); decide), (pj_u_j (by decide)).trans ((pj_u_j (by decide)).trans (h4.trans (own4 _ rfl).symm)), fun w => absurd w (by show ¬ (4 = 1); decide), fun w => absurd w (by show ¬ (4 = 2 ∨ 4 = 3); decide)⟩
        · have i2 : i ≤ run f isd (m - u) u := i2
          unfold sgq
          rw [if_neg (by omega), if_neg (by rw [l1]; decide), if_pos l2, if_neg (by rw [z]; decide), if_pos (by omega)]
          exact ⟨pj_u_e, (pj_u_j (by decide)).trans ((pj_u_j (by decide)).trans h5), (pj_u_j (by decide)).trans pj_u_e, fun w => absurd w (by show ¬ (4 = 1 ∨ 4 = 2 ∨ 4 = 3); decide), (pj_u_j (by decide)).trans ((pj_u_j (by decide)).trans (h4.trans (own4 _ rfl).symm)), fun w => absurd w (by show ¬ (4 = 1); decide), fun w => absurd w (by show ¬ (4 = 2 ∨ 4 = 3); decide)⟩
      · have z : jnd f u = true := (bi_n _).mp z
        refine fin _ (zu (zu hf)) ?_
        rcases hx with ⟨rfl, rfl, l1⟩ | ⟨rfl, rfl, l1, l2⟩
        · unfold sgq
          rw [if_neg (by omega), if_pos l1, if_pos z]
          exact ⟨pj_u_e, (pj_u_j (by decide)).trans ((pj_u_j (by decide)).trans h5), (pj_u_j (by decide)).trans (pj_u_e.trans h5), fun w => absurd w (by show ¬ (4 = 1 ∨ 4 = 2 ∨ 4 = 3); decide), (pj_u_j (by decide)).trans ((pj_u_j (by decide)).trans (h4.trans (own4 _ rfl).symm)), fun w => absurd w (by show ¬ (4 = 1); decide), fun w => absurd w (by show ¬ (4 = 2 ∨ 4 = 3); decide)⟩
        · unfold sgq
          rw [if_neg (by omega), if_neg (by rw [l1]; decide), if_pos l2, if_pos z]
          exact ⟨pj_u_e, (pj_u_j (by decide)).trans ((pj_u_j (by decide)).trans h5), (pj_u_j (by decide)).trans (pj_u_e.trans h5), fun w => absurd w (by show ¬ (4 = 1 ∨ 4 = 2 ∨ 4 = 3); decide), (pj_u_j (by decide)).trans ((pj_u_j (by decide)).trans (h4.trans (own4 _ rfl).symm)), fun w => absurd w (by show ¬ (4 = 1); decide), fun w => absurd w (by show ¬ (4 = 2 ∨ 4 = 3); decide)⟩
    refine w65_294 (pj_D_le 1) I' J _ _ ⟨fun z => p315 (Or.inl ((bi_n _).mp z)), fun z => ?_⟩
    have z : jnd f u = false := (bi_0 _).mp z
    rw [h7, h5, pk_sub (by omega), show u + i - u = i by omega, nI_leI (by omega) (by omega)]
    refine ⟨fun c => ?_, fun c => p315 (Or.inr (by omega))⟩
    have i5 := i4 c
    have h3c := h3 c
    rcases hx with ⟨rfl, rfl, l1⟩ | ⟨rfl, rfl, l1, l2⟩
    · have i5 : i = run f isl (m - u) u := i5
      have h3 : I' 32 3 = nI (lv5 f u i) := h3c
      refine ⟨fun w => absurd h2 w, fun _ => ?_⟩
      have lb := lv5_b (f := f) (q := u) (i := i) (fun j hj => run_in (k := isl) (show j < run f isl (m - u) u by omega))
      have sv : nI (lv5 f u i) <<< ((5 * (6 - nI i)) &&& 31) = nmC (lts f i u) := by
        unfold nmC
        have tw : (2 : Nat) ^ (5 * (6 - i)) = 32 ^ (6 - i) := Nat.pow_mul 2 5 (6 - i)
        rw [lv5_e, lts_len, pk_shlN _ (5 * (6 - i)) (sh_m5 i (by omega) i1), tw]
        rw [tw]
        have : (32 : Nat) ^ i * 32 ^ (6 - i) = 2 ^ 30 := by
          rw [← Nat.pow_add, show i + (6 - i) = 6 by omega]
        have : lv5 f u i * 32 ^ (6 - i) ≤ 32 ^ i * 32 ^ (6 - i) := Nat.mul_le_mul_right _ (by omega)
        omega
      rw [h3, sv]
      refine s68 (by decide) (kI_i (fin _ (zu (zu hf)) ?_))
      have hnm : nmV (lts f i u) := ⟨by rw [lts_len]; exact i1, by rw [lts_len]; exact c, lts_v (fun j hj => run_in (k := isl) (show j < run f isl (m - u) u by omega))⟩
      unfold sgq
      rw [if_neg (by omega), if_pos l1, if_neg (by rw [z]; decide), if_neg (by omega), ← i5]
      refine ⟨(pj_u_j (by decide)).trans ((pj_u_j (by decide)).trans h2), (pj_u_j (by decide)).trans ((pj_u_j (by decide)).trans h5), (pj_u_j (by decide)).trans ((pj_u_j (by decide)).trans h6), fun _ => (pj_u_j (by decide)).trans ((pj_u_j (by decide)).trans h7), ?_, fun _ => (pj_u_j (by decide)).trans pj_u_e, fun w => absurd w (by show ¬ (1 = 2 ∨ 1 = 3); decide)⟩
      rw [pj_u_e]
      have ew : own (1, u, u, u + i, lts f i u, 0) = ff (fun k => decide (oww k = lts f i u)) 22 0 := if_pos rfl
      rw [ew]
      refine congrArg wo (ff_cong (fun k _ hk => ?_))
      rw [pj_u_n (by decide), hf 33 k rfl, ho k (by omega), owC_e k (by omega)]
      exact decide_eq_decide.mpr (nmC_inj (oww_v k (by omega)) hnm)
    · have i5 : i = run f isd (m - u) u := i5
      have h3 : I' 32 3 = nI (dgs f u i) := h3c
      refine ⟨fun _ => fin _ hf ?_, fun w => absurd (h2.symm.trans w) (by decide)⟩
      unfold sgq
      rw [if_neg (by omega), if_neg (by rw [l1]; decide), if_pos l2, if_neg (by rw [z]; decide), if_neg (by omega), ← i5]
      refine ⟨h2, h5, h6, fun _ => h7, ?_, fun w => absurd w (by show ¬ (2 = 1); decide), fun _ => h3⟩
      rw [h4]
      unfold own
      rw [if_neg (by show ¬ (2 = 1); decide)]
      rfl
  have p173 : ∀ (x M : Nat), (x = 1 ∧ M = 6 ∧ isl (f u) = true ∨ x = 2 ∧ M = 4 ∧ isl (f u) = false ∧ isd (f u) = true) → u < m → ∀ r i (I' : Nat → Nat → Int32), r + i = M + 1 → pj_fr zS I I' → i ≤ run f (if x = 1 then isl else isd) (m - u) u → I' 32 7 = nI (u + i) → I' 32 5 = nI u → I' 32 6 = nI u → I' 32 4 = -1 → I' 32 2 = nI x → (i ≤ M → I' 32 3 = nI (if x = 1 then lv5 f u i else dgs f u i)) → pj_R (pj_D 1) ta mc_65 false Q 173 [some (.ref 32), none, some (.int (bi (jnd f u))), some (.int (nI M)), none] [] (zc n) I' J 0 0 := by
    intro x M hx hu r
    have hM : M ≤ 6 := by omega
    have hk0 : (if x = 1 then isl else isd) (f (u + 0)) = true := by
      rcases hx with ⟨rfl, rfl, l1⟩ | ⟨rfl, rfl, l1, l2⟩
      · exact l1
      · exact l2
    have r0 : 1 ≤ run f (if x = 1 then isl else isd) (m - u) u := run_pos (by omega) hk0
    have rl := run_le (f := f) (k := if x = 1 then isl else isd) (r := m - u) (p := u)
    induction r with
    | zero =>
      intro i I' e hf i2 h7 h5 h6 h4 h2 h3
      have go := p294 x M i I' hf hx hu (by omega) i2 (by omega) (fun c => by omega) h7 h5 h6 h4 h2 h3
      refine w65_173 (pj_D_le 1) I' J _ _ ⟨fun _ => go, fun _ => br_t ?_ go⟩
      rw [h7, h5, pk_sub (by omega), show u + i - u = i by omega]
      exact nI_lt (by omega) (by omega)
    | succ r ih =>
      intro i I' e hf i2 h7 h5 h6 h4 h2 h3
      have go : i = run f (if x = 1 then isl else isd) (m - u) u → pj_R (pj_D 1) ta mc_65 false Q 294 [some (.ref 32), none, some (.int (bi (jnd f u))), some (.int (nI M)), none] [] (zc n) I' J 0 0 := fun e0 => p294 x M i I' hf hx hu (by omega) i2 (by omega) (fun _ => e0) h7 h5 h6 h4 h2 h3
      refine w65_173 (pj_D_le 1) I' J _ _ ?_
      rw [(TC_z hf hT).2.1, h7, h5, pk_sub (by omega), show u + i - u = i by omega, nI_leI (by omega) (by omega)]
      refine ⟨fun c => go (by omega), fun c => br_f (nI_nlt (by omega) (by omega)) ?_⟩
      have a85 : ∀ K : Int32 → (Nat → Nat → Int32) → (Nat → Nat → Int64) → Prop, K (nI (f (u + i))) I' J → pj_D 1 85 [.ref 3, .int (nI (u + i))] (zc n, I', J) (kI n K) := fun K hK => by
        refine s85 (by decide) (TC_z hf hT).2.1 hm (by omega) (kI_i ?_)
        rw [if_pos (by omega), ((TC_z hf hT).2.2 (u + i) (by omega)).1]
        exact hK
      refine a85 _ (s67 (by decide) (hT.2.2 (u + i) (by omega)).2 (kI_i ?_))
      have kb := kdo_b (f (u + i))
      rw [h2, h7, nI_eq (by omega) (by omega)]
      have kx : kdo (f (u + i)) = x ↔ (if x = 1 then isl else isd) (f (u + i)) = true := by
        rcases hx with ⟨rfl, rfl, -⟩ | ⟨rfl, rfl, -⟩
        · exact kdo_1
        · exact kdo_2
      rw [kx]
      refine ⟨fun c2 => go (run_st i2 (by cases e : (if x = 1 then isl else isd) (f (u + i)) with | true => exact absurd e c2 | false => rfl)), fun c2 => ?_⟩
      have i2' := run_ge i2 (by omega) c2
      have nxt : ∀ v, (i + 1 ≤ M → v = nI (if x = 1 then lv5 f u (i + 1) else dgs f u (i + 1))) → pj_R (pj_D 1) ta mc_65 false Q 173 [some (.ref 32), none, some (.int (bi (jnd f u))), some (.int (nI M)), none] [] (zc n) (pj_u (pj_u I' 32 3 v) 32 7 (I' 32 7 + 1)) J 0 0 := fun v hv => by
        rw [h7, nI_1]
        exact ih (i + 1) _ (by omega) (zu (zu hf)) i2' pj_u_e ((pj_u_j (by decide)).trans ((pj_u_j (by decide)).trans h5)) ((pj_u_j (by decide)).trans ((pj_u_j (by decide)).trans h6)) ((pj_u_j (by decide)).trans ((pj_u_j (by decide)).trans h4)) ((pj_u_j (by decide)).trans ((pj_u_j (by decide)).trans h2)) (fun c => (pj_u_j (by decide)).trans (pj_u_e.trans (hv c)))
      rcases hx with ⟨rfl, rfl, l1⟩ | ⟨rfl, rfl, l1, l2⟩
      · refine ⟨fun z => absurd rfl z, fun _ => ?_⟩
        refine a85 _ (nxt _ (fun c3 => ?_))
        have h3 : I' 32 3 = nI (lv5 f u i) := h3 (by omega)
        have lb := lv5_b (f := f) (q := u) (i := i) (fun j hj => run_in (k := isl) (show j < run f isl (m - u) u from Nat.lt_of_lt_of_le hj i2))
        have c2 := isl_b.mp c2
        have : 32 ^ i ≤ 32 ^ 5 := Nat.pow_le_pow_right (by decide) (by omega)
        have e1 : nI (f (u + i)) - 97 + 1 = nI (f (u + i) - 96) := by
          have : nI (f (u + i)) - 97 = nI (f (u + i) - 97) := pk_sub (b := 97) (by omega)
          rw [this, nI_1]
          exact congrArg nI (by omega)
        rw [h3, e1, or5 (by omega) (by omega)]
        rfl
      · refine ⟨fun _ => ?_, fun z => absurd z (by decide)⟩
        refine a85 _ (nxt _ (fun c3 => ?_))
        have h3 : I' 32 3 = nI (dgs f u i) := h3 (by omega)
        have c2 := isd_b.mp c2
        have e1 : nI (dgs f u i) * 10 + nI (f (u + i)) - 48 = nI (10 * dgs f u i + (f (u + i) - 48)) := by
          have : nI (dgs f u i) * 10 = nI (dgs f u i * 10) := pk_mul _ 10
          rw [this, nI_add]
          have : nI (dgs f u i * 10 + f (u + i)) - 48 = nI (dgs f u i * 10 + f (u + i) - 48) := pk_sub (b := 48) (by omega)
          rw [this]
          exact congrArg nI (by omega)
        rw [h3, e1]
        rfl
  have p153 : ∀ (x M : Nat), (x = 1 ∧ M = 6 ∧ isl (f u) = true ∨ x = 2 ∧ M = 4 ∧ isl (f u) = false ∧ isd (f u) = true) → u < m → ∀ I' : Nat → Nat → Int32, pj_fr zS I I' → I' 32 7 = nI u → I' 32 5 = nI u → I' 32 6 = nI u → I' 32 4 = -1 → I' 32 2 = nI x → pj_R (pj_D 1) ta mc_65 false Q 153 [some (.ref 32), none, some (.int (bi (jnd f u))), none, none] [] (zc n) I' J 0 0 := by
    intro x M hx hu I' hf h7 h5 h6 h4 h2
    have go := p173 x M hx hu (M + 1) 0 (pj_u I' 32 3 0) rfl (zu hf) (Nat.zero_le _) ((pj_u_j (by decide)).trans h7) ((pj_u_j (by decide)).trans h5) ((pj_u_j (by decide)).trans h6) ((pj_u_j (by decide)).trans h4) ((pj_u_j (by decide)).trans h2) (fun _ => pj_u_e.trans (by split <;> rfl))
    refine w65_153 (pj_D_le 1) I' J _ ?_
    rw [h2]
    rcases hx with ⟨rfl, rfl, -⟩ | ⟨rfl, rfl, -⟩
    · exact ⟨fun z => absurd rfl z, fun _ => go⟩
    · exact ⟨fun _ => go, fun z => absurd z (by decide)⟩
  -- the kind
  have mid : ∀ I' : Nat → Nat → Int32, pj_fr zS I I' → I' 32 7 = nI u → I' 32 5 = nI u → I' 32 6 = nI u → I' 32 4 = -1 → pj_D 1 85 [.ref 3, .int (nI u)] (zc n, I', J) (kI n fun v1 I1 J1 => pj_D 1 67 [.int v1] (zc n, (pj_u I1 32 3 v1), J1) (kI n fun v2 I2 J2 => ((v2 = 1 → pj_R (pj_D 1) ta mc_65 false Q 153 [some (.ref 32), none, some (.int (bi (jnd f u))), none, none] [] (zc n) (pj_u I2 32 2 v2) J2 0 0) ∧ (¬ v2 = 1 → ((v2 = 2 → pj_R (pj_D 1) ta mc_65 false Q 153 [some (.ref 32), none, some (.int (bi (jnd f u))), none, none] [] (zc n) (pj_u I2 32 2 v2) J2 0 0) ∧ (¬ v2 = 2 → Q none (zc n, (pj_u (pj_u I2 32 2 v2) 32 7 ((I2 32 7) + 1)), J2))))))) := by
    intro I' hf h7 h5 h6 h4
    refine s85 (by decide) (TC_z hf hT).2.1 hm (by omega) (kI_i ?_)
    have own0 : ∀ t : Sg, t.k ≠ 1 → wo (own t) = -1 := fun t ht => by unfold own; rw [if_neg ht]; rfl
    by_cases c : u < m
    · rw [if_pos c, ((TC_z hf hT).2.2 u c).1]
      refine s67 (by decide) (hT.2.2 u c).2 (kI_i ?_)
      have st : ∀ v w : Int32, pj_u (pj_u I' 32 3 v) 32 2 w 32 7 = nI u ∧ pj_u (pj_u I' 32 3 v) 32 2 w 32 5 = nI u ∧ pj_u (pj_u I' 32 3 v) 32 2 w 32 6 = nI u ∧ pj_u (pj_u I' 32 3 v) 32 2 w 32 4 = -1 := fun v w => ⟨(pj_u_j (by decide)).trans ((pj_u_j (by decide)).trans h7), (pj_u_j (by decide)).trans ((pj_u_j (by decide)).trans h5), (pj_u_j (by decide)).trans ((pj_u_j (by decide)).trans h6), (pj_u_j (by decide)).trans ((pj_u_j (by decide)).trans h4)⟩
      have kb := kdo_b (f u)
      refine ⟨fun z => ?_, fun z => ⟨fun y => ?_, fun y => ?_⟩⟩
      · have z' := (nI_eq (b := 1) (by omega) (by decide)).mp z
        have s := st (nI (f u)) (nI (kdo (f u)))
        exact p153 1 6 (Or.inl ⟨rfl, rfl, kdo_1.mp z'⟩) c _ (zu (zu hf)) s.1 s.2.1 s.2.2.1 s.2.2.2 (pj_u_e.trans z)
      · have y' := (nI_eq (b := 2) (by omega) (by decide)).mp y
        have s := st (nI (f u)) (nI (kdo (f u)))
        refine p153 2 4 (Or.inr ⟨rfl, rfl, ?_, kdo_2.mp y'⟩) c _ (zu (zu hf)) s.1 s.2.1 s.2.2.1 s.2.2.2 (pj_u_e.trans y)
        cases e : isl (f u) with
        | false => rfl
        | true => rw [kdo_1.mpr e] at y'; cases y'
      · have z' : ¬ kdo (f u) = 1 := fun e => z ((nI_eq (b := 1) (by omega) (by decide)).mpr e)
        have y' : ¬ kdo (f u) = 2 := fun e => y ((nI_eq (b := 2) (by omega) (by decide)).mpr e)
        have s := st (nI (f u)) (nI (kdo (f u)))
        refine q _ (zu (zu (zu hf))) ?_
        unfold sgq
        rw [if_neg (by omega), if_neg (fun e => z' (kdo_1.mpr e)), if_neg (fun e => y' (kdo_2.mpr e))]
        refine ⟨(pj_u_j (by decide)).trans (pj_u_e.trans (congrArg nI (by show kdo (f u) = 3; omega))), (pj_u_j (by decide)).trans s.2.1, (pj_u_j (by decide)).trans s.2.2.1, fun _ => pj_u_e.trans ?_, (pj_u_j (by decide)).trans (s.2.2.2.trans (own0 _ (by show 3 ≠ 1; decide)).symm), fun w => absurd w (by show ¬ 3 = 1; decide), fun _ => (pj_u_j (by decide)).trans ((pj_u_j (by decide)).trans pj_u_e)⟩
        rw [pj_u_j (by decide), h7, nI_1]
        rfl
    · rw [if_neg c]
      refine s67n (by decide) (kI_i ⟨fun z => absurd z (by decide), fun _ => ⟨fun z => absurd z (by decide), fun _ => q _ (zu (zu (zu hf))) ?_⟩⟩)
      unfold sgq
      rw [if_pos (by omega)]
      exact ⟨(pj_u_j (by decide)).trans pj_u_e, (pj_u_j (by decide)).trans ((pj_u_j (by decide)).trans ((pj_u_j (by decide)).trans h5)), (pj_u_j (by decide)).trans ((pj_u_j (by decide)).trans ((pj_u_j (by decide)).trans h6)), fun w => absurd w (by show ¬ (0 = 1 ∨ 0 = 2 ∨ 0 = 3); decide), (pj_u_j (by decide)).trans ((pj_u_j (by decide)).trans ((pj_u_j (by decide)).trans (h4.trans (own0 _ (by show 0 ≠ 1; decide)).symm))), fun w => absurd w (by show ¬ 0 = 1; decide), fun w => absurd w (by show ¬ (0 = 2 ∨ 0 = 3); decide)⟩
  have stt : ∀ I' : Nat → Nat → Int32, I' 32 7 = nI u → (pj_u (pj_u (pj_u I' 32 5 (nI u)) 32 6 (nI u)) 32 4 (-1)) 32 7 = nI u ∧ (pj_u (pj_u (pj_u I' 32 5 (nI u)) 32 6 (nI u)) 32 4 (-1)) 32 5 = nI u ∧ (pj_u (pj_u (pj_u I' 32 5 (nI u)) 32 6 (nI u)) 32 4 (-1)) 32 6 = nI u ∧ (pj_u (pj_u (pj_u I' 32 5 (nI u)) 32 6 (nI u)) 32 4 (-1)) 32 4 = -1 := fun I' h7 => ⟨(pj_u_j (by decide)).trans ((pj_u_j (by decide)).trans ((pj_u_j (by decide)).trans h7)), (pj_u_j (by decide)).trans ((pj_u_j (by decide)).trans pj_u_e), (pj_u_j (by decide)).trans pj_u_e, pj_u_e⟩
  have p73 : jnd f u = true → pj_R (pj_D 1) ta mc_65 false Q 73 [some (.ref 32), none, none, none, none] [] (zc n) I1 J 0 0 := fun e => by
    refine w65_73 (pj_D_le 1) I1 J ?_
    have s := stt I1 g7
    have := mid _ (zu (zu (zu f1))) s.1 s.2.1 s.2.2.1 s.2.2.2
    rw [e] at this
    rw [g7]
    exact this
  have p77 : jnd f u = false → pj_R (pj_D 1) ta mc_65 false Q 77 [some (.ref 32), none, none, none, none] [] (zc n) I1 J 0 0 := fun e => by
    refine w65_77 (pj_D_le 1) I1 J ?_
    have s := stt I1 g7
    have := mid _ (zu (zu (zu f1))) s.1 s.2.1 s.2.2.1 s.2.2.2
    rw [e] at this
    rw [g7]
    exact this
  refine w65_49 (pj_D_le 1) I1 J _ ?_
  rw [g7, g2, nI_eq (by omega) (by omega)]
  refine ⟨fun c => p77 (hjq c), fun c => ?_⟩
  rw [← c] at hj
  refine ⟨fun c1 => p73 (hj.mpr (Or.inl c1)), fun c1 => ⟨fun c2 => p77 ?_, fun c2 => p73 (hj.mpr (Or.inr c2))⟩⟩
  cases e : jnd f u with
  | false => rfl
  | true => rcases hj.mp e with a | a; · exact absurd a c1
            · exact absurd a c2
/-- Scanner.begin -/
theorem s64 (hh : 3 ≤ h) (hT : TC m f I) (ho : ∀ k, k < 22 → I 33 k = owC k) (q : ∀ I', pj_fr zS I I' → SCs (sgn m f 0) I' → Q none (zc n, I', J)) : pj_D h 64 [.ref 32] (zc n, I, J) Q := by
  refine pj_ent (g := 2) hh (t := mt_64) rfl rfl (v64_0 (pj_D_le 2) I J ?_)
  have f0 : pj_fr zS I (pj_u (pj_u I 32 2 3) 32 7 0) := pj_fr_u (pj_fr_u pj_fr_rf rfl) rfl
  refine s65 (by decide) (p := 0) (TC_z f0 hT) (fun k hk => (f0 33 k rfl).trans (ho k hk)) (Nat.zero_le _) pj_u_e ?_ (fun I' f1 hs => kV_i (q I' (pj_fr_tr f0 f1) hs))
  rw [pj_u_j (by decide), pj_u_e]
  exact ⟨fun z => (by cases z), fun z => absurd z (by decide)⟩
end PCt
