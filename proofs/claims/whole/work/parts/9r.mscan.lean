/-! the reference's scanner -/
def TZ (m : Nat) (f : Nat → Nat) (I : Nat → Nat → Int32) : Prop := m ≤ 1600 ∧ I 276 2 = nI m ∧ ∀ k, k < m → I 277 k = nI (f k) ∧ f k < 256
def SMt (t : Sg) (I : Nat → Nat → Int32) (J : Nat → Nat → Int64) : Prop := I 276 3 = nI (if t.k = 4 then t.v else t.k) ∧ I 276 4 = nI t.st ∧ I 276 5 = nI t.nx ∧ I 276 12 = (if t.k = 4 then nI t.pl else -1) ∧ (t.k = 1 → J 276 7 = nmM t.ls) ∧ (t.k = 2 ∨ t.k = 3 → I 276 6 = nI t.v)
def zM : Nat → Nat → Bool := fun c j => c == 276 && (j == 3 || j == 4 || j == 5 || j == 6 || j == 12)
def jM : Nat → Nat → Bool := fun c j => c == 276 && j == 7
theorem zM_f {c j : Nat} (h : c ≠ 276) : zM c j = false := by unfold zM; rw [beq_eq_false_iff_ne.mpr h]; rfl
def lv8 (f : Nat → Nat) (q : Nat) : Nat → Nat
  | 0 => 0
  | i + 1 => 256 * lv8 f q i + f (q + i)
theorem lv8_e {f : Nat → Nat} {q : Nat} : ∀ {i : Nat}, (∀ j, j < i → isl (f (q + j)) = true) → (lts f i q).foldl (fun x y => 256 * x + (96 + y)) 0 = lv8 f q i
  | 0, _ => rfl
  | i + 1, h => by
    rw [lts_s, List.foldl_append, lv8_e (i := i) (fun j hj => h j (by omega))]
    have := isl_b.mp (h i (by omega))
    show 256 * lv8 f q i + (96 + (f (q + i) - 96)) = 256 * lv8 f q i + f (q + i)
    omega
theorem lv8_b {f : Nat → Nat} {q : Nat} : ∀ {i : Nat}, (∀ j, j < i → isl (f (q + j)) = true) → lv8 f q i + 1 ≤ 256 ^ i
  | 0, _ => Nat.le_refl _
  | i + 1, h => by
    have ih := lv8_b (f := f) (q := q) (i := i) (fun j hj => h j (by omega))
    have := isl_b.mp (h i (by omega))
    unfold lv8
    rw [Nat.pow_succ]
    omega
theorem or8l {a b : Nat} (ha : a < 2 ^ 48) (hb : b < 256) : (lN a <<< (Int32.toInt64 8 &&& 63)) ||| Int32.toInt64 (nI b) = lN (256 * a + b) := by
  rw [nI_l (by omega)]
  apply Int64.toBitVec_inj.mp
  rw [Int64.toBitVec_or, Int64.toBitVec_shiftLeft]
  have e : (Int32.toInt64 8 &&& 63 : Int64).toBitVec.smod 64 = 8#64 := by decide
  rw [e]
  show (BitVec.ofNat 64 a <<< 8#64) ||| BitVec.ofNat 64 b = BitVec.ofNat 64 (256 * a + b)
  apply BitVec.eq_of_toNat_eq
  rw [BitVec.toNat_or, BitVec.shiftLeft_eq', BitVec.toNat_shiftLeft, BitVec.toNat_ofNat, BitVec.toNat_ofNat, BitVec.toNat_ofNat, BitVec.toNat_ofNat]
  have e8 : (8 : Nat) % 2 ^ 64 = 8 := by decide
  rw [e8, Nat.mod_eq_of_lt (show a < 2 ^ 64 by omega), Nat.mod_eq_of_lt (show b < 2 ^ 64 by omega), Nat.mod_eq_of_lt (show 256 * a + b < 2 ^ 64 by omega), Nat.shiftLeft_eq, Nat.mod_eq_of_lt (show a * 2 ^ 8 < 2 ^ 64 by omega)]
  have := Nat.two_pow_add_eq_or_of_lt (i := 8) (b := b) (by omega) a
  rw [Nat.mul_comm a, ← this]
section PMs
variable {n h : Nat} {Q : pj_K} {I : Nat → Nat → Int32} {J : Nat → Nat → Int64} {m : Nat} {f : Nat → Nat}
theorem TZ_fr {I' : Nat → Nat → Int32} (hf : ∀ c j, (c = 276 ∧ j = 2) ∨ c = 277 → I' c j = I c j) (h : TZ m f I) : TZ m f I' := ⟨h.1, (hf _ _ (Or.inl ⟨rfl, rfl⟩)).trans h.2.1, fun k hk => ⟨(hf _ _ (Or.inr rfl)).trans (h.2.2 k hk).1, (h.2.2 k hk).2⟩⟩
theorem TZ_z {I' : Nat → Nat → Int32} (hf : pj_fr zM I I') (h : TZ m f I) : TZ m f I' := TZ_fr (fun c j hc => by
  rcases hc with ⟨rfl, rfl⟩ | rfl
  · exact hf 276 2 rfl
  · exact hf 277 j rfl) h
theorem m165 (hh : 1 ≤ h) {c : Nat} (hc : c < 256) (q : Q (some (.int (bi (isl c)))) (zc n, I, J)) : pj_D h 165 [.int (nI c)] (zc n, I, J) Q := by
  refine pj_ent (g := 0) hh (t := mt_165) rfl rfl (v165_0 (pj_D_le 0) I J _ ?_)
  refine pk_lt c 97 (fun d => ?_) (fun d => pk_lt 122 c (fun e => ?_) (fun e => ?_))
  · rw [show isl c = false by cases e : isl c with | false => rfl | true => have := isl_b.mp e; omega] at q; exact q
  · rw [show isl c = false by cases e : isl c with | false => rfl | true => have := isl_b.mp e; omega] at q; exact q
  · rw [isl_b.mpr (by omega)] at q; exact q
theorem m166 (hh : 1 ≤ h) {c : Nat} (hc : c < 256) (q : Q (some (.int (bi (isd c)))) (zc n, I, J)) : pj_D h 166 [.int (nI c)] (zc n, I, J) Q := by
  refine pj_ent (g := 0) hh (t := mt_166) rfl rfl (v166_0 (pj_D_le 0) I J _ ?_)
  refine pk_lt c 48 (fun d => ?_) (fun d => pk_lt 57 c (fun e => ?_) (fun e => ?_))
  · rw [show isd c = false by cases e : isd c with | false => rfl | true => have := isd_b.mp e; omega] at q; exact q
  · rw [show isd c = false by cases e : isd c with | false => rfl | true => have := isd_b.mp e; omega] at q; exact q
  · rw [isd_b.mpr (by omega)] at q; exact q
/-- PegCoatsModel.ahead -/
theorem m164 (hh : 2 ≤ h) {p : Nat} (hT : TZ m f I) (hp : p ≤ m) (hn : I 276 5 = nI p) (q : ∀ I' J', pj_fr zM I I' → pj_fr jM J J' → SMt (sgn m f p) I' J' → Q none (zc n, I', J')) : pj_D h 164 [.ref 276] (zc n, I, J) Q := by
  have hm := hT.1
  have g := skb_ge (f := f) (r := m - p) (p := p)
  have zu : ∀ {I' : Nat → Nat → Int32} {j : Nat} {v : Int32}, pj_fr zM I I' → zM 276 j = true → pj_fr zM I (pj_u I' 276 j v) := fun hf e => pj_fr_u hf e
  unfold sgn at q
  refine pj_ent (g := 1) hh (t := mt_164) rfl rfl (v164_0 (pj_D_le 1) I J ?_)
  rw [hn]
  have p5 : ∀ r p', r + p' = m → p ≤ p' → skb f r p' = skb f (m - p) p → pj_R (pj_D 1) ta mc_164 false Q 41 [some (.ref 276), some (.int (nI (skb f (m - p) p))), none, none, none, none] [] (zc n) I J 0 0 → pj_R (pj_D 1) ta mc_164 false Q 5 [some (.ref 276), some (.int (nI p')), none, none, none, none] [] (zc n) I J 0 0 := by
    intro r
    induction r with
    | zero =>
      intro p' e1 e2 e3 K
      refine v164_5 (pj_D_le 1) I J _ (br_t ?_ ?_)
      · rw [hT.2.1]
        exact nI_le (by omega) (by omega)
      · rw [← e3] at K; exact K
    | succ r ih =>
      intro p' e1 e2 e3 K
      have cf := (hT.2.2 p' (by omega)).2
      have nx : skb f r (p' + 1) = skb f (m - p) p → pj_R (pj_D 1) ta mc_164 false Q 35 [some (.ref 276), some (.int (nI p')), none, none, none, none] [] (zc n) I J 0 0 := fun e => by
        refine v164_35 (pj_D_le 1) I J _ ?_
        rw [nI_1]
        exact ih (p' + 1) (by omega) (by omega) e K
      refine v164_5 (pj_D_le 1) I J _ (br_f ?_ ⟨vp_in_nI (by omega) (by decide), ?_⟩)
      · rw [hT.2.1]
        exact nI_ge (by omega) (by omega)
      · rw [nI_clamp (by omega), (hT.2.2 p' (by omega)).1]
        rw [show skb f (r + 1) p' = (match blk (f p') with | true => skb f r (p' + 1) | false => p') from rfl] at e3
        have d1 : (nI (f p') = 32) ↔ f p' = 32 := nI_eq (b := 32) (by omega) (by decide)
        have d2 : (nI (f p') = 10) ↔ f p' = 10 := nI_eq (b := 10) (by omega) (by decide)
        rw [d1, d2]
        unfold blk at e3
        refine ⟨fun c => nx ?_, fun c => ⟨vp_in_nI (by omega) (by decide), fun c2 => ?_, fun c2 => nx ?_⟩⟩
        · rw [c] at e3; exact e3
        · rw [beq_eq_false_iff_ne.mpr c, beq_eq_false_iff_ne.mpr c2] at e3
          have e3 : p' = skb f (m - p) p := e3
          rw [← e3] at K; exact K
        · rw [c2] at e3; exact e3
  refine p5 (m - p) p (by omega) (Nat.le_refl _) rfl ?_
  generalize skb f (m - p) p = u at q g
  clear p5
  have bs : ∀ b : Bool, ¬ bi b = 0 ↔ b = true := bi_n
  -- the end of a word or a number
  have p204 : ∀ (x M : Nat), (x = 1 ∧ M = 6 ∧ isl (f u) = true ∨ x = 2 ∧ M = 4 ∧ isl (f u) = false ∧ isd (f u) = true) → u < m → ∀ r i (I' : Nat → Nat → Int32) (J' : Nat → Nat → Int64), r + i = m - u → pj_fr zM I I' → pj_fr jM J J' → i ≤ run f (if x = 1 then isl else isd) (m - u) u → I' 276 4 = nI u → I' 276 3 = nI x → I' 276 12 = (if jnd f u = true then nI u else if M < i then nI (u + M) else -1) → (x = 1 → i ≤ M → J' 276 7 = lN (lv8 f u i)) → (x = 2 → i ≤ M → I' 276 6 = nI (dgs f u i)) → pj_R (pj_D 1) ta mc_164 false Q 204 [some (.ref 276), some (.int (nI (u + i))), some (.int (bi (isl (f u)))), some (.int (bi (isd (f u)))), some (.int (nI M)), some (.int (nI i))] [] (zc n) I' J' 0 0 := by
    intro x M hx hu
    have hM : M ≤ 6 := by omega
    have rl := run_le (f := f) (k := if x = 1 then isl else isd) (r := m - u) (p := u)
    have p334 : ∀ i (I' : Nat → Nat → Int32) (J' : Nat → Nat → Int64), pj_fr zM I I' → pj_fr jM J J' → i = run f (if x = 1 then isl else isd) (m - u) u → I' 276 4 = nI u → I' 276 3 = nI x → I' 276 12 = (if jnd f u = true then nI u else if M < i then nI (u + M) else -1) → (x = 1 → i ≤ M → J' 276 7 = lN (lv8 f u i)) → (x = 2 → i ≤ M → I' 276 6 = nI (dgs f u i)) → pj_R (pj_D 1) ta mc_164 false Q 334 [some (.ref 276), some (.int (nI (u + i))), none, none, none, none] [] (zc n) I' J' 0 0 := by
      intro i I' J' f1 f2 ei h4 h3 h12 h7 h6
      refine v164_334 (pj_D_le 1) I' J' _ (q _ _ (zu f1 rfl) f2 ?_)
      unfold sgq
      rw [if_neg (by omega)]
      rcases hx with ⟨rfl, rfl, l1⟩ | ⟨rfl, rfl, l1, l2⟩
      · have ei : i = run f isl (m - u) u := ei
        rw [if_pos l1]
        by_cases cj : jnd f u = true
        · rw [if_pos cj]
          rw [if_pos cj] at h12
          exact ⟨(pj_u_j (by decide)).trans h3, (pj_u_j (by decide)).trans h4, pj_u_e.trans (by rw [ei]; rfl), (pj_u_j (by decide)).trans h12, fun w => absurd w (by show ¬ (4 = 1); decide), fun w => absurd w (by show ¬ (4 = 2 ∨ 4 = 3); decide)⟩
        · rw [if_neg cj]
          rw [if_neg cj] at h12
          by_cases c6 : 6 < run f isl (m - u) u
          · rw [if_pos c6]
            rw [if_pos (by omega)] at h12
            exact ⟨(pj_u_j (by decide)).trans h3, (pj_u_j (by decide)).trans h4, pj_u_e.trans (by rw [ei]; rfl), (pj_u_j (by decide)).trans h12, fun w => absurd w (by show ¬ (4 = 1); decide), fun w => absurd w (by show ¬ (4 = 2 ∨ 4 = 3); decide)⟩
          · rw [if_neg c6]
            rw [if_neg (by omega)] at h12
            refine ⟨(pj_u_j (by decide)).trans h3, (pj_u_j (by decide)).trans h4, pj_u_e.trans (by rw [ei]; rfl), (pj_u_j (by decide)).trans h12, fun _ => ?_, fun w => absurd w (by show ¬ (1 = 2 ∨ 1 = 3); decide)⟩
            rw [h7 rfl (by omega), ei]
            show _ = nmM (lts f (run f isl (m - u) u) u)
            unfold nmM
            rw [lv8_e (fun j hj => run_in hj)]
      · have ei : i = run f isd (m - u) u := ei
        rw [if_neg (by rw [l1]; decide), if_pos l2]
        by_cases cj : jnd f u = true
        · rw [if_pos cj]
          rw [if_pos cj] at h12
          exact ⟨(pj_u_j (by decide)).trans h3, (pj_u_j (by decide)).trans h4, pj_u_e.trans (by rw [ei]; rfl), (pj_u_j (by decide)).trans h12, fun w => absurd w (by show ¬ (4 = 1); decide), fun w => absurd w (by show ¬ (4 = 2 ∨ 4 = 3); decide)⟩
        · rw [if_neg cj]
          rw [if_neg cj] at h12
          by_cases c6 : 4 < run f isd (m - u) u
          · rw [if_pos c6]
            rw [if_pos (by omega)] at h12
            exact ⟨(pj_u_j (by decide)).trans h3, (pj_u_j (by decide)).trans h4, pj_u_e.trans (by rw [ei]; rfl), (pj_u_j (by decide)).trans h12, fun w => absurd w (by show ¬ (4 = 1); decide), fun w => absurd w (by show ¬ (4 = 2 ∨ 4 = 3); decide)⟩
          · rw [if_neg c6]
            rw [if_neg (by omega)] at h12
            refine ⟨(pj_u_j (by decide)).trans h3, (pj_u_j (by decide)).trans h4, pj_u_e.trans (by rw [ei]; rfl), (pj_u_j (by decide)).trans h12, fun w => absurd w (by show ¬ (2 = 1); decide), fun _ => ?_⟩
            rw [pj_u_j (by decide), h6 rfl (by omega), ei]
            rfl
    intro r
    induction r with
    | zero =>
      intro i I' J' e f1 f2 i2 h4 h3 h12 h7 h6
      refine v164_204 (pj_D_le 1) I' J' _ _ _ _ _ (br_t ?_ (p334 i I' J' f1 f2 (by omega) h4 h3 h12 h7 h6))
      rw [(TZ_z f1 hT).2.1]
      exact nI_le (by omega) (by omega)
    | succ r ih =>
      intro i I' J' e f1 f2 i2 h4 h3 h12 h7 h6
      have hT' := TZ_z f1 hT
      have cf := (hT.2.2 (u + i) (by omega)).2
      have stop : (if x = 1 then isl else isd) (f (u + i)) = false → pj_R (pj_D 1) ta mc_164 false Q 334 [some (.ref 276), some (.int (nI (u + i))), none, none, none, none] [] (zc n) I' J' 0 0 := fun z => p334 i I' J' f1 f2 (run_st i2 z) h4 h3 h12 h7 h6
      have go : (if x = 1 then isl else isd) (f (u + i)) = true → pj_R (pj_D 1) ta mc_164 false Q 243 [some (.ref 276), some (.int (nI (u + i))), some (.int (bi (isl (f u)))), some (.int (bi (isd (f u)))), some (.int (nI M)), some (.int (nI i))] [] (zc n) I' J' 0 0 := fun ck => by
        have i3 := run_ge i2 (by omega) ck
        -- from the value on
        have p325 : ∀ (I2 : Nat → Nat → Int32) (J2 : Nat → Nat → Int64), pj_fr zM I I2 → pj_fr jM J J2 → I2 276 4 = nI u → I2 276 3 = nI x → I2 276 12 = (if jnd f u = true then nI u else if M < i + 1 then nI (u + M) else -1) → (x = 1 → i + 1 ≤ M → J2 276 7 = lN (lv8 f u (i + 1))) → (x = 2 → i + 1 ≤ M → I2 276 6 = nI (dgs f u (i + 1))) → pj_R (pj_D 1) ta mc_164 false Q 325 [some (.ref 276), some (.int (nI (u + i))), some (.int (bi (isl (f u)))), some (.int (bi (isd (f u)))), some (.int (nI M)), some (.int (nI i))] [] (zc n) I2 J2 0 0 := fun I2 J2 k1 k2 k3 k4 k5 k6 k7 => by
          refine v164_325 (pj_D_le 1) I2 J2 _ _ _ _ _ ?_
          rw [nI_1, nI_1]
          exact ih (i + 1) I2 J2 (by omega) k1 k2 i3 k3 k4 k5 k6 k7
        have p263 : ∀ (I2 : Nat → Nat → Int32), pj_fr zM I I2 → I2 276 4 = nI u → I2 276 3 = nI x → I2 276 12 = (if jnd f u = true then nI u else if M < i + 1 then nI (u + M) else -1) → (x = 2 → i ≤ M → I2 276 6 = nI (dgs f u i)) → pj_R (pj_D 1) ta mc_164 false Q 263 [some (.ref 276), some (.int (nI (u + i))), some (.int (bi (isl (f u)))), some (.int (bi (isd (f u)))), some (.int (nI M)), some (.int (nI i))] [] (zc n) I2 J' 0 0 := fun I2 k1 k3 k4 k5 k7 => by
          have hT2 := TZ_z k1 hT
          have ap : ∀ {A B : Prop}, (M ≤ i → A) → (¬ M ≤ i → B) → (nI M ≤ nI i → A) ∧ (¬ nI M ≤ nI i → B) := fun a b => by
            rw [nI_leI (by omega) (by omega)]; exact ⟨a, b⟩
          have p293 : ∀ (J2 : Nat → Nat → Int64), pj_fr jM J J2 → (x = 1 → i + 1 ≤ M → J2 276 7 = lN (lv8 f u (i + 1))) → pj_R (pj_D 1) ta mc_164 false Q 293 [some (.ref 276), some (.int (nI (u + i))), some (.int (bi (isl (f u)))), some (.int (bi (isd (f u)))), some (.int (nI M)), some (.int (nI i))] [] (zc n) I2 J2 0 0 := fun J2 k2 k6 => by
            refine v164_293 (pj_D_le 1) I2 J2 _ _ _ _ _ (ap (fun c => p325 I2 J2 k1 k2 k3 k4 k5 k6 (fun _ z => by omega)) (fun c => ?_))
            rcases hx with ⟨rfl, rfl, l1⟩ | ⟨rfl, rfl, l1, l2⟩
            · refine ⟨fun _ => p325 I2 J2 k1 k2 k3 k4 k5 k6 (fun z => by omega), fun z => ?_⟩
              have l2 := (bi_n _).mp z
              rw [isl_b] at l1
              rw [isd_b] at l2
              omega
            · refine ⟨fun z => ?_, fun _ => ⟨vp_in_nI (by omega) (by decide), ?_⟩⟩
              · rw [l2] at z; exact absurd z (by decide)
              · rw [nI_clamp (by omega), (hT2.2.2 (u + i) (by omega)).1, k7 rfl (by omega)]
                have c2 := isd_b.mp ck
                have e1 : 10 * nI (dgs f u i) + nI (f (u + i)) - 48 = nI (10 * dgs f u i + (f (u + i) - 48)) := by
                  have : 10 * nI (dgs f u i) = nI (10 * dgs f u i) := pk_mul 10 _
                  rw [this, nI_add]
                  have : nI (10 * dgs f u i + f (u + i)) - 48 = nI (10 * dgs f u i + f (u + i) - 48) := pk_sub (b := 48) (by omega)
                  rw [this]
                  exact congrArg nI (by omega)
                rw [e1]
                exact p325 _ J2 (zu k1 rfl) k2 ((pj_u_j (by decide)).trans k3) ((pj_u_j (by decide)).trans k4) ((pj_u_j (by decide)).trans k5) (fun z => by omega) (fun _ _ => pj_u_e)
          refine v164_263 (pj_D_le 1) I2 J' _ _ _ _ _ (ap (fun c => p293 J' f2 (fun _ z => by omega)) (fun c => ?_))
          rcases hx with ⟨rfl, rfl, l1⟩ | ⟨rfl, rfl, l1, l2⟩
          · refine ⟨fun z => ?_, fun _ => ⟨vp_in_nI (by omega) (by decide), ?_⟩⟩
            · rw [l1] at z; exact absurd z (by decide)
            · rw [nI_clamp (by omega), (hT2.2.2 (u + i) (by omega)).1, h7 rfl (by omega)]
              have lb := lv8_b (f := f) (q := u) (i := i) (fun j hj => run_in (k := isl) (show j < run f isl (m - u) u from Nat.lt_of_lt_of_le hj i2))
              have : 256 ^ i ≤ 256 ^ 5 := Nat.pow_le_pow_right (by decide) (by omega)
              rw [or8l (by omega) cf]
              exact p293 _ (pj_fr_u f2 rfl) (fun _ _ => pj_u_e)
          · refine ⟨fun _ => p293 J' f2 (fun z => by omega), fun z => ?_⟩
            rw [l1] at z
            exact absurd rfl z
        refine v164_243 (pj_D_le 1) I' J' _ _ _ _ _ ?_
        rw [nI_eq (by omega) (by omega), h12]
        refine ⟨fun c => p263 I' f1 h4 h3 ?_ h6, fun c => ⟨fun c2 => p263 I' f1 h4 h3 ?_ h6, fun c2 => p263 _ (zu f1 rfl) ((pj_u_j (by decide)).trans h4) ((pj_u_j (by decide)).trans h3) ?_ (fun a b => (pj_u_j (by decide)).trans (h6 a b))⟩⟩
        · rw [h12]
          by_cases cj : jnd f u = true
          · rw [if_pos cj, if_pos cj]
          · rw [if_neg cj, if_neg cj]
            by_cases d : M < i
            · rw [if_pos d, if_pos (by omega)]
            · rw [if_neg d, if_neg (by omega)]
        · rw [h12]
          by_cases cj : jnd f u = true
          · rw [if_pos cj, if_pos cj]
          · rw [if_neg cj, if_neg (by omega)] at c2
            exact absurd rfl c2
        · rw [pj_u_e]
          by_cases cj : jnd f u = true
          · rw [if_pos cj] at c2
            exact absurd c2 (fun z => by
              have a : ¬ nI u < 0 := nI_nlt (a := u) (b := 0) (Nat.zero_le _) (by omega)
              rw [z] at a
              exact a (by decide))
          · rw [if_neg cj, if_pos (by omega), c]
      refine v164_204 (pj_D_le 1) I' J' _ _ _ _ _ (br_f ?_ ?_)
      · rw [hT'.2.1]
        exact nI_ge (by omega) (by omega)
      · rw [nI_clamp (by omega), (hT'.2.2 (u + i) (by omega)).1]
        rcases hx with ⟨rfl, rfl, l1⟩ | ⟨rfl, rfl, l1, l2⟩
        · refine ⟨fun z => ?_, fun _ => ⟨vp_in_nI (by omega) (by decide), m165 (by decide) cf (kI_i ?_)⟩⟩
          · rw [l1] at z; exact absurd z (by decide)
          · exact ⟨fun z => stop ((bi_0 _).mp z), fun z => go ((bi_n _).mp z)⟩
        · refine ⟨fun _ => ⟨vp_in_nI (by omega) (by decide), m166 (by decide) cf (kI_i ?_)⟩, fun z => ?_⟩
          · exact ⟨fun z => stop ((bi_0 _).mp z), fun z => go ((bi_n _).mp z)⟩
          · rw [l1] at z; exact absurd rfl z
  -- from the kinds on
  have p135 : ∀ I' : Nat → Nat → Int32, u < m → pj_fr zM I I' → I' 276 4 = nI u → I' 276 12 = (if jnd f u = true ∧ (isl (f u) = true ∨ isd (f u) = true) then nI u else -1) → pj_R (pj_D 1) ta mc_164 false Q 135 [some (.ref 276), some (.int (nI u)), some (.int (bi (isl (f u)))), some (.int (bi (isd (f u)))), none, none] [] (zc n) I' J 0 0 := by
    intro I' hu f1 h4 h12
    have hT' := TZ_z f1 hT
    have p176 : ∀ x M : Nat, (x = 1 ∧ M = 6 ∧ isl (f u) = true ∨ x = 2 ∧ M = 4 ∧ isl (f u) = false ∧ isd (f u) = true) → pj_R (pj_D 1) ta mc_164 false Q 176 [some (.ref 276), some (.int (nI u)), some (.int (bi (isl (f u)))), some (.int (bi (isd (f u)))), none, none] [] (zc n) (pj_u (pj_u (pj_u I' 276 6 0) 276 3 3) 276 5 (nI u + 1)) (pj_u J 276 7 0) 0 0 := by
      intro x M hx
      have go := p204 x M hx hu (m - u) 0 (pj_u (pj_u (pj_u (pj_u I' 276 6 0) 276 3 3) 276 5 (nI u + 1)) 276 3 (nI x)) (pj_u J 276 7 0) rfl (zu (zu (zu (zu f1 rfl) rfl) rfl) rfl) (pj_fr_u pj_fr_rf rfl) (Nat.zero_le _) (by rw [pj_u_j (by decide), pj_u_j (by decide), pj_u_j (by decide), pj_u_j (by decide)]; exact h4) pj_u_e (by
        rw [pj_u_j (by decide), pj_u_j (by decide), pj_u_j (by decide), pj_u_j (by decide), h12]
        by_cases cj : jnd f u = true
        · rw [if_pos cj, if_pos ⟨cj, by rcases hx with ⟨-, -, l⟩ | ⟨-, -, -, l⟩; · exact Or.inl l
                                        · exact Or.inr l⟩]
        · rw [if_neg cj, if_neg (fun z => cj z.1), if_neg (by omega)]) (fun _ _ => pj_u_e) (fun _ _ => by rw [pj_u_j (by decide), pj_u_j (by decide), pj_u_j (by decide), pj_u_e]; rfl)
      refine v164_176 (pj_D_le 1) _ _ _ _ _ ?_
      rcases hx with ⟨rfl, rfl, l1⟩ | ⟨rfl, rfl, l1, l2⟩
      · rw [l1] at go ⊢
        exact ⟨fun z => absurd z (by decide), fun _ => ⟨fun z => absurd z (by decide), fun _ => go⟩⟩
      · rw [l1] at go ⊢
        exact ⟨fun _ => ⟨fun _ => go, fun z => absurd rfl z⟩, fun z => absurd rfl z⟩
    refine v164_135 (pj_D_le 1) I' J _ _ _ ⟨fun z => p176 1 6 (Or.inl ⟨rfl, rfl, (bi_n _).mp z⟩), fun z => ⟨fun y => p176 2 4 (Or.inr ⟨rfl, rfl, (bi_0 _).mp z, (bi_n _).mp y⟩), fun y => ⟨vp_in_nI (by omega) (by decide), ?_⟩⟩⟩
    have z := (bi_0 _).mp z
    have y := (bi_0 _).mp y
    rw [nI_clamp (by omega), (hT'.2.2 u hu).1, nI_1]
    refine q _ _ (zu (zu (zu (zu f1 rfl) rfl) rfl) rfl) (pj_fr_u pj_fr_rf rfl) ?_
    unfold sgq
    rw [if_neg (by omega), if_neg (by rw [z]; decide), if_neg (by rw [y]; decide)]
    refine ⟨(pj_u_j (by decide)).trans ((pj_u_j (by decide)).trans pj_u_e), by rw [pj_u_j (by decide), pj_u_j (by decide), pj_u_j (by decide), pj_u_j (by decide)]; exact h4, (pj_u_j (by decide)).trans pj_u_e, ?_, fun w => absurd w (by show ¬ (3 = 1); decide), fun _ => pj_u_e⟩
    rw [pj_u_j (by decide), pj_u_j (by decide), pj_u_j (by decide), pj_u_j (by decide), h12, if_neg (by rw [z, y]; exact fun w => absurd w.2 (by decide))]
    rfl
  refine v164_41 (pj_D_le 1) I J _ ?_
  have f0 : pj_fr zM I (pj_u (pj_u (pj_u (pj_u I 276 4 (nI u)) 276 5 (nI u)) 276 3 0) 276 12 (-1)) := zu (zu (zu (zu pj_fr_rf rfl) rfl) rfl) rfl
  have k4 : (pj_u (pj_u (pj_u (pj_u I 276 4 (nI u)) 276 5 (nI u)) 276 3 0) 276 12 (-1)) 276 4 = nI u := by rw [pj_u_j (by decide), pj_u_j (by decide), pj_u_j (by decide), pj_u_e]
  rw [hT.2.1, nI_ltI (by omega) (by omega)]
  refine ⟨fun c => ⟨vp_in_nI (by omega) (by decide), ?_⟩, fun c => q _ _ f0 pj_fr_rf ?_⟩
  rotate_left
  · unfold sgq
    rw [if_pos (by omega)]
    exact ⟨(pj_u_j (by decide)).trans pj_u_e, k4, by rw [pj_u_j (by decide), pj_u_j (by decide), pj_u_e]; rfl, pj_u_e, fun w => absurd w (by show ¬ (0 = 1); decide), fun w => absurd w (by show ¬ (0 = 2 ∨ 0 = 3); decide)⟩
  · have cf := (hT.2.2 u c).2
    rw [nI_clamp (by omega), (hT.2.2 u c).1]
    refine m165 (by decide) cf (kI_i ⟨vp_in_nI (by omega) (by decide), ?_⟩)
    rw [(TZ_z f0 hT).2.2 u c |>.1]
    refine m166 (by decide) cf (kI_i ?_)
    have p98 : (isl (f u) = true ∨ isd (f u) = true) → pj_R (pj_D 1) ta mc_164 false Q 98 [some (.ref 276), some (.int (nI u)), some (.int (bi (isl (f u)))), some (.int (bi (isd (f u)))), none, none] [] (zc n) (pj_u (pj_u (pj_u (pj_u I 276 4 (nI u)) 276 5 (nI u)) 276 3 0) 276 12 (-1)) J 0 0 := fun hk => by
      have no : jnd f u = false → pj_R (pj_D 1) ta mc_164 false Q 135 [some (.ref 276), some (.int (nI u)), some (.int (bi (isl (f u)))), some (.int (bi (isd (f u)))), none, none] [] (zc n) (pj_u (pj_u (pj_u (pj_u I 276 4 (nI u)) 276 5 (nI u)) 276 3 0) 276 12 (-1)) J 0 0 := fun z => p135 _ c f0 k4 (by rw [pj_u_e, if_neg (by rw [z]; exact fun w => absurd w.1 (by decide))])
      have yes : jnd f u = true → pj_R (pj_D 1) ta mc_164 false Q 130 [some (.ref 276), some (.int (nI u)), some (.int (bi (isl (f u)))), some (.int (bi (isd (f u)))), none, none] [] (zc n) (pj_u (pj_u (pj_u (pj_u I 276 4 (nI u)) 276 5 (nI u)) 276 3 0) 276 12 (-1)) J 0 0 := fun z => v164_130 (pj_D_le 1) _ J _ _ _ (p135 _ c (zu f0 rfl) ((pj_u_j (by decide)).trans k4) (by rw [pj_u_e, if_pos ⟨z, hk⟩]))
      refine v164_98 (pj_D_le 1) _ J _ _ _ ?_
      cases u with
      | zero => exact br_t (by decide) (no rfl)
      | succ v =>
        have cv := (hT.2.2 v (by omega)).2
        have jv : jnd f (v + 1) = (isl (f v) || isd (f v)) := rfl
        refine br_f (nI_nle (Nat.succ_pos _) (by omega)) ?_
        rw [nI_pred v]
        refine ⟨vp_in_nI (by omega) (by decide), ?_⟩
        rw [nI_clamp (by omega), (TZ_z f0 hT).2.2 v (by omega) |>.1]
        refine m165 (by decide) cv (kI_i ⟨fun z => yes (by rw [jv, (bi_n _).mp z]; rfl), fun z => ⟨vp_in_nI (by omega) (by decide), ?_⟩⟩)
        rw [(TZ_z f0 hT).2.2 v (by omega) |>.1]
        exact m166 (by decide) cv (kI_i ⟨fun y => no (by rw [jv, (bi_0 _).mp z, (bi_0 _).mp y]; rfl), fun y => yes (by rw [jv, (bi_n _).mp y, Bool.or_true])⟩)
    refine ⟨fun z => p98 (Or.inl ((bi_n _).mp z)), fun z => ⟨fun y => ?_, fun y => p98 (Or.inr ((bi_n _).mp y))⟩⟩
    refine p135 _ c f0 k4 ?_
    rw [pj_u_e, if_neg]
    rw [(bi_0 _).mp z, (bi_0 _).mp y]
    exact fun w => absurd w.2 (by decide)
end PMs
