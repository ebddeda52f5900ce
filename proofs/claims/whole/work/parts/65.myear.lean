/-! a year: the reference -/
def kS (v : Nat) : Nat → Nat → Bool := fun c j => c == 307 && j == v || c == 308 && (Nat.ble (120 * v) j && Nat.blt j (120 * v + 120))
def tS (v : Nat) : Nat → Nat → Bool := fun c j => mS v c j || c == 310
def uS (v : Nat) : Nat → Nat → Bool := fun c j => nS v c j || c == 310
theorem mS_f {v c j : Nat} (h : c < 299 ∨ 308 < c) : mS v c j = false := by
  unfold mS
  split <;> first | rfl | omega
theorem tS_f {v c j : Nat} (h : c < 299 ∨ 310 < c) : tS v c j = false := by
  unfold tS
  rw [mS_f (by omega), beq_eq_false_iff_ne.mpr (by omega)]
  rfl
theorem rg_f {a b j : Nat} (h : j < a ∨ b ≤ j) : (Nat.ble a j && Nat.blt j b) = false := by
  rw [Bool.and_eq_false_iff]
  rcases h with q | q
  · left; rw [← Bool.not_eq_true, Nat.ble_eq]; omega
  · right; rw [← Bool.not_eq_true, Nat.blt_eq]; omega
section PYm
variable {n h : Nat} {Q : pj_K} {I : Nat → Nat → Int32} {J : Nat → Nat → Int64} {W : Wk} {L : Ly} {B v : Nat}
theorem tS_m {I' : Nat → Nat → Int32} (h : pj_fr (mS v) I I') : pj_fr (tS v) I I' := pj_fr_w h (fun c j hc => by
  unfold tS at hc
  rw [Bool.or_eq_false_iff] at hc
  exact hc.1)
theorem tS_a {I' : Nat → Nat → Int32} (h : pj_fr aS I I') : pj_fr (tS v) I I' := pj_fr_w h (fun c j hc => by
  unfold tS at hc
  rw [Bool.or_eq_false_iff] at hc
  exact hc.2)
theorem uS_a {I' : Nat → Nat → Int32} (h : pj_fr aS I I') : pj_fr (uS v) I I' := pj_fr_w h (fun c j hc => by
  unfold uS at hc
  rw [Bool.or_eq_false_iff] at hc
  exact hc.2)
theorem uS_n {I' : Nat → Nat → Int32} (h : pj_fr (nS v) I I') : pj_fr (uS v) I I' := pj_fr_w h (fun c j hc => by
  unfold uS at hc
  rw [Bool.or_eq_false_iff] at hc
  exact hc.1)
theorem uS_t {I' : Nat → Nat → Int32} (h : pj_fr (uS v) I I') : pj_fr (tS v) I I' := pj_fr_w h (fun c j hc => by
  unfold tS at hc
  rw [Bool.or_eq_false_iff] at hc
  unfold uS
  have : nS v c j = false := by
    have h2 := hc.1
    unfold mS at h2
    unfold nS
    split at h2 <;> first | exact h2 | rfl | skip
    split <;> first | rfl | contradiction | simp_all
  rw [this, hc.2]
  rfl)
theorem kS_m {I' : Nat → Nat → Int32} (h : pj_fr (kS v) I I') : pj_fr (mS v) I I' := pj_fr_w h (fun c j hc => by
  unfold kS
  by_cases e : c = 307
  · subst e
    have hc : (j == v) = false := hc
    rw [hc]; rfl
  · by_cases e2 : c = 308
    · subst e2
      have hc : (Nat.ble (120 * v) j && Nat.blt j (120 * v + 120)) = false := hc
      rw [hc]; rfl
    · rw [beq_eq_false_iff_ne.mpr e, beq_eq_false_iff_ne.mpr e2]; rfl)
theorem MW_t {I' : Nat → Nat → Int32} {J' : Nat → Nat → Int64} (h : pj_fr (tS v) I I') (hj : pj_fr sS J J') (hW : MW W B I J) : MW W B I' J' :=
  MW_fr (fun c j h1 h2 => h c j (tS_f (by omega))) (fun c j h1 h2 => hj c j (beq_eq_false_iff_ne.mpr (by omega))) hW
theorem LM_a {I' : Nat → Nat → Int32} (h : pj_fr aS I I') (hL : LM W v L I) : LM W v L I' := by
  obtain ⟨g1, ⟨S, g2, g3, g4⟩, ⟨G, g5, g6, g7⟩, g8, g9⟩ := hL
  exact ⟨(h _ _ rfl).trans g1, ⟨S, (h _ _ rfl).trans g2, g3, g4⟩, ⟨G, (h _ _ rfl).trans g5, g6, g7⟩, fun k hk => (h _ _ rfl).trans (g8 k hk), fun k hk => ⟨(h _ _ rfl).trans (g9 k hk).1, (h _ _ rfl).trans (g9 k hk).2.1, (h _ _ rfl).trans (g9 k hk).2.2.1, (h _ _ rfl).trans (g9 k hk).2.2.2⟩⟩
/-- another layer stays -/
theorem LM_o {w : Nat} {I' : Nat → Nat → Int32} (h8 : W.nc ≤ 8) (h7 : W.nm ≤ 7) (hvw : w ≠ v) (h : pj_fr (tS v) I I') (hL : LM W w L I) : LM W w L I' := by
  obtain ⟨g1, ⟨S, g2, g3, g4⟩, ⟨G, g5, g6, g7⟩, g8, g9⟩ := hL
  have e0 : (w == v) = false := beq_eq_false_iff_ne.mpr hvw
  have t1 : ∀ c, c = 299 ∨ c = 300 ∨ c = 306 → tS v c w = false := fun c hc => by
    rcases hc with rfl | rfl | rfl
    · show ((w == v) || false) = false; rw [e0]; rfl
    · show ((w == v) || false) = false; rw [e0]; rfl
    · show ((w == v) || false) = false; rw [e0]; rfl
  have t8 : ∀ k, k < 8 → tS v 301 (8 * w + k) = false := fun k hk => by
    show ((Nat.ble (8 * v) (8 * w + k) && Nat.blt (8 * w + k) (8 * v + 8)) || false) = false
    rw [rg_f (by omega)]; rfl
  have t7 : ∀ c k, c = 302 ∨ c = 303 ∨ c = 304 ∨ c = 305 → k < 7 → tS v c (7 * w + k) = false := fun c k hc hk => by
    rcases hc with rfl | rfl | rfl | rfl
    all_goals
      show ((Nat.ble (7 * v) (7 * w + k) && Nat.blt (7 * w + k) (7 * v + 7)) || false) = false
      rw [rg_f (by omega)]; rfl
  exact ⟨(h _ _ (t1 _ (by decide))).trans g1, ⟨S, (h _ _ (t1 _ (by decide))).trans g2, g3, g4⟩, ⟨G, (h _ _ (t1 _ (by decide))).trans g5, g6, g7⟩, fun k hk => (h _ _ (t8 k (by omega))).trans (g8 k hk), fun k hk => ⟨(h _ _ (t7 302 k (by decide) (by omega))).trans (g9 k hk).1, (h _ _ (t7 303 k (by decide) (by omega))).trans (g9 k hk).2.1, (h _ _ (t7 304 k (by decide) (by omega))).trans (g9 k hk).2.2.1, (h _ _ (t7 305 k (by decide) (by omega))).trans (g9 k hk).2.2.2⟩⟩
/-- one man is changed -/
theorem LM_m {m : Nat} {L' : Ly} {I' : Nat → Nat → Int32} (hL : LM W v L I) (g1 : L'.yr = L.yr) (g2 : L'.lin = L.lin) (g3 : L'.bur = L.bur) (ho : ∀ k, k ≠ m → L'.siz k = L.siz k ∧ L'.age k = L.age k ∧ L'.wor k = L.wor k ∧ L'.pur k = L.pur k)
    (fG : ∃ G, I' 306 v = nI G ∧ G < 128 ∧ ∀ k, k < W.nm → G.testBit k = !L'.the k) (f1 : ∀ c j, c = 299 ∨ c = 300 ∨ c = 301 → I' c j = I c j) (f3 : ∀ c j, 302 ≤ c → c ≤ 305 → j ≠ 7 * v + m → I' c j = I c j)
    (hm : I' 302 (7 * v + m) = nI (L'.siz m) ∧ I' 303 (7 * v + m) = nI (L'.age m) ∧ I' 304 (7 * v + m) = wo (L'.wor m) ∧ I' 305 (7 * v + m) = nI (L'.pur m)) : LM W v L' I' := by
  obtain ⟨q1, ⟨S, q2, q3, q4⟩, -, q8, q9⟩ := hL
  refine ⟨(f1 _ _ (by decide)).trans (by rw [g1]; exact q1), ⟨S, (f1 _ _ (by decide)).trans q2, q3, by rw [g3]; exact q4⟩, fG, fun k hk => (f1 _ _ (by decide)).trans (by rw [g2]; exact q8 k hk), fun k hk => ?_⟩
  by_cases c : k = m
  · rw [c]; exact hm
  · obtain ⟨o1, o2, o3, o4⟩ := ho k c
    obtain ⟨r1, r2, r3, r4⟩ := q9 k hk
    rw [o1, o2, o3, o4]
    exact ⟨(f3 _ _ (by decide) (by decide) (by omega)).trans r1, (f3 _ _ (by decide) (by decide) (by omega)).trans r2, (f3 _ _ (by decide) (by decide) (by omega)).trans r3, (f3 _ _ (by decide) (by decide) (by omega)).trans r4⟩
theorem nS_7 {c m : Nat} (hc : 302 ≤ c) (hc2 : c ≤ 305) (hm : m < 7) : nS v c (7 * v + m) = true := by
  obtain rfl | rfl | rfl | rfl : c = 302 ∨ c = 303 ∨ c = 304 ∨ c = 305 := by omega
  all_goals exact rg_t (by omega) (by omega)
/-- PegCoatsModel.grow, of one who is there -/
theorem s227 (hh : 4 ≤ h) {m : Nat} (hv : v < 22) (hB : I 276 13 = nI B) (hW : MW W B I J) (hV : WV W) (hL : LM W v L I) (hLV : LV W L) (hm : m < W.nm) (ht : L.the m = true) (q : ∀ I' J', pj_fr (uS v) I I' → pj_fr sS J J' → LM W v (gro W L m) I' → Q none (zc n, I', J')) : pj_D h 227 [.ref 276, .int (nI v), .int (nI m)] (zc n, I, J) Q := by
  have w2 := hW.1.2.1
  have w1 := hW.1.1
  refine pj_ent (g := 3) hh (t := mt_227) rfl rfl (v227_0 (pj_D_le 3) I J _ _ ?_)
  obtain ⟨l1, l2, l3, l4⟩ := hL.2.2.2.2 m hm
  have lv1 := hLV.2.2.1 m hm
  have lv0 := hLV.1
  have i7 := pk_in (x := nI (7 * v + m)) (7 * v + m) 154 (by omega)
  rw [li_7, nI_clamp (n := 7 * v + m) (by omega), nI_clamp (n := v) (by omega), l1, l2, hL.1]
  have fA : pj_fr aS I (pj_u (pj_u (pj_u I 310 1 (nI (L.siz m))) 310 2 (nI (L.age m))) 310 3 (nI L.yr)) := aS_u (aS_u (aS_u pj_fr_rf))
  have hE : (pj_u (pj_u (pj_u I 310 1 (nI (L.siz m))) 310 2 (nI (L.age m))) 310 3 (nI L.yr)) 310 1 = nI (L.siz m) ∧ (pj_u (pj_u (pj_u I 310 1 (nI (L.siz m))) 310 2 (nI (L.age m))) 310 3 (nI L.yr)) 310 2 = nI (L.age m) ∧ (pj_u (pj_u (pj_u I 310 1 (nI (L.siz m))) 310 2 (nI (L.age m))) 310 3 (nI L.yr)) 310 3 = nI L.yr := ⟨rfl, rfl, rfl⟩
  generalize (pj_u (pj_u (pj_u I 310 1 (nI (L.siz m))) 310 2 (nI (L.age m))) 310 3 (nI L.yr)) = I1 at fA hE
  have W1 : MW W B I1 J := MW_t (v := v) (tS_a fA) pj_fr_rf hW
  have L1 := LM_a fA hL
  have B1 : I1 276 13 = nI B := (fA _ _ rfl).trans hB
  obtain ⟨k1, k2, k3, k4⟩ := L1.2.2.2.2 m hm
  refine ⟨i7, i7, pk_in v 22 hv, s218p (by decide) (k := 1) (by decide) B1 W1.1.2.2.1 W1.2.1 (kI_i ?_)⟩
  have fin : ∀ (g : Nat) (I2 : Nat → Nat → Int32) (J2 : Nat → Nat → Int64), gz W (L.siz m) (L.age m) L.yr = g → pj_fr (uS v) I I2 → pj_fr sS J J2 → LM W v L I1 → (∀ c j, (c ≠ 302 ∨ j ≠ 7 * v + m) → 299 ≤ c → c ≤ 306 → I2 c j = I1 c j) → I2 302 (7 * v + m) = nI g →
      ((99 ≤ nI (L.age m) → Q none (zc n, I2, J2)) ∧ (¬ 99 ≤ nI (L.age m) → (vp_in (nI (7 * v + m)) 154 ∧ (vp_in (nI (7 * v + m)) 154 ∧ Q none (zc n, (pj_u I2 303 (7 * v + m) (nI (L.age m) + 1)), J2))))) := by
    intro g I2 J2 eg f2 fj _ fo h2
    have hG := L1.2.2.1
    have eg0 : gro W L m = (L.yr, L.lin, L.bur, upd1 L.siz m (gz W (L.siz m) (L.age m) L.yr), upd1 L.age m (if L.age m + 1 < 99 then L.age m + 1 else 99), L.wor, L.pur, L.the) := by
      unfold gro
      rw [ht]
    have LL : ∀ I3 : Nat → Nat → Int32, (∀ c j, (c ≠ 302 ∨ j ≠ 7 * v + m) → (c ≠ 303 ∨ j ≠ 7 * v + m) → 299 ≤ c → c ≤ 306 → I3 c j = I1 c j) → I3 302 (7 * v + m) = nI g → I3 303 (7 * v + m) = nI (if L.age m + 1 < 99 then L.age m + 1 else 99) → LM W v (gro W L m) I3 := by
      intro I3 fo3 h3 h4
      rw [eg0]
      refine LM_m (m := m) L1 rfl rfl rfl (fun j hj => ⟨upd1_n hj, upd1_n hj, rfl, rfl⟩) ?_ (fun c j hc => fo3 c j (by omega) (by omega) (by omega) (by omega)) (fun c j h1 h2 hj => fo3 c j (Or.inr hj) (Or.inr hj) (by omega) (by omega)) ⟨?_, ?_, ?_, ?_⟩
      · obtain ⟨G, q1, q2, q3⟩ := hG
        exact ⟨G, (fo3 _ _ (by omega) (by omega) (by omega) (by omega)).trans q1, q2, q3⟩
      · rw [h3, ← eg]; exact congrArg nI upd1_e.symm
      · rw [h4]; exact congrArg nI upd1_e.symm
      · exact (fo3 _ _ (by omega) (by omega) (by omega) (by omega)).trans k3
      · exact (fo3 _ _ (by omega) (by omega) (by omega) (by omega)).trans k4
    refine pk_le 99 (L.age m) (fun c => q I2 J2 f2 fj (LL I2 (fun c j a1 a2 => fo c j a1) h2 ?_)) (fun c => ⟨i7, i7, q _ J2 (pj_fr_u f2 ?_) fj (LL _ (fun c j a1 a2 a3 a4 => ?_) ?_ ?_)⟩)
    · rw [fo 303 _ (by omega) (by omega) (by omega), k2, if_neg (by omega)]
      exact congrArg nI (by omega)
    · unfold uS; rw [nS_7 (by decide) (by decide) (by omega)]; rfl
    · rcases a2 with a2 | a2
      · rw [pj_u_n a2]; exact fo c j a1 a3 a4
      · rw [pj_u_j a2]; exact fo c j a1 a3 a4
    · rw [pj_u_n (by decide)]; exact h2
    · rw [pj_u_e, nI_1]
      by_cases d : L.age m + 1 < 99
      · rw [if_pos d]
      · rw [if_neg d]; exact congrArg nI (by omega)
  have s7t : uS v 302 (7 * v + m) = true := by unfold uS; rw [nS_7 (by decide) (by decide) (by omega)]; rfl
  cases e : W.pr 1 with
  | none =>
    refine ⟨fun _ => ⟨i7, ?_⟩, fun z => absurd rfl z⟩
    rw [k2]
    exact fin (L.siz m) I1 J (by unfold gz; rw [e]) (uS_a fA) pj_fr_rf L1 (fun c j _ _ _ => rfl) k1
  | some ts =>
    refine ⟨fun z => absurd z (by show ¬ (1 : Int32) = 0; decide), fun _ => ?_⟩
    have be : ∀ w, GB (en (L.siz m) (L.age m) L.yr 0 0 0 0 0 w) := fun w => en_b (by omega) (by omega) (by omega) (by omega) (by omega) (by omega) (by omega) (by omega) w
    refine s219p (Nat.le_refl 3) (p := 1) (by decide) hB hW hV e fA (e := en (L.siz m) (L.age m) L.yr 0 0 0 0 0) (fun w hw => ⟨?_, be w⟩) (fun J' g => kL_i ?_)
    · rcases al_c hw with rfl | rfl | rfl | ⟨z, -⟩ | ⟨z, -⟩
      · exact hE.1
      · exact hE.2.1
      · exact hE.2.2
      · cases z
      · cases z
    · have gb := (val_b (fun w _ => be w) (hV.1 1 ts (by decide) e).2).1
      have ez : gz W (L.siz m) (L.age m) L.yr = (if 1 < (if val ts (en (L.siz m) (L.age m) L.yr 0 0 0 0 0) < 99 then val ts (en (L.siz m) (L.age m) L.yr 0 0 0 0 0) else 99) then (if val ts (en (L.siz m) (L.age m) L.yr 0 0 0 0 0) < 99 then val ts (en (L.siz m) (L.age m) L.yr 0 0 0 0 0) else 99) else 1).toNat := by
        unfold gz
        rw [e]
      generalize val ts (en (L.siz m) (L.age m) L.yr 0 0 0 0 0) = x at ez gb
      have c1 : 1 ≤ iL x ↔ 1 ≤ x := iL_le (a := 1) ⟨by decide, by decide⟩ gb.l
      have c2 : iL x ≤ 99 ↔ x ≤ 99 := iL_le (b := 99) gb.l ⟨by decide, by decide⟩
      rw [lg_cmp_ge, lg_cmp_le, c1, c2, iL_i, k2]
      have wr3 : ∀ (y : Int32) (c j : Nat), (c ≠ 302 ∨ j ≠ 7 * v + m) → pj_u I1 302 (7 * v + m) y c j = I1 c j := fun y c j hc => by
        rcases hc with hc | hc
        · exact pj_u_n hc
        · exact pj_u_j hc
      refine ⟨fun d1 => ⟨fun d2 => ⟨i7, i7, ?_⟩, fun d2 => ⟨i7, i7, ?_⟩⟩, fun d1 => ⟨i7, i7, ?_⟩⟩
      · refine fin x.toNat _ J' ?_ (pj_fr_u (uS_a fA) s7t) g L1 (fun c j hc _ _ => wr3 _ c j hc) ?_
        · rw [ez]
          by_cases d3 : x < 99
          · rw [if_pos d3]
            by_cases d4 : 1 < x
            · rw [if_pos d4]
            · rw [if_neg d4]; omega
          · rw [if_neg d3]
            have : x = 99 := by omega
            subst this; rfl
        · rw [pj_u_e, ← iI_n, show ((x.toNat : Nat) : Int) = x by omega]
      · refine fin 99 _ J' ?_ (pj_fr_u (uS_a fA) s7t) g L1 (fun c j hc _ _ => wr3 _ c j hc) (pj_u_e)
        rw [ez, show (if x < 99 then x else 99) = 99 from if_neg (by omega)]
        rfl
      · refine fin 1 _ J' ?_ (pj_fr_u (uS_a fA) s7t) g L1 (fun c j hc _ _ => wr3 _ c j hc) (pj_u_e)
        rw [ez, show (if x < 99 then x else 99) = x from if_pos (by omega), if_neg (by omega)]
        rfl
end PYm
