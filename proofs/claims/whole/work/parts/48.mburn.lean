/-! the reference: a coat burns -/
section PMb
variable {n h : Nat} {Q : pj_K} {I : Nat → Nat → Int32} {J : Nat → Nat → Int64} {W : Wk} {L : Ly} {B : Nat}
theorem LM_burn {v c S : Nat} {o : Option Nat} {I' : Nat → Nat → Int32} (hL : LM W v L I) (hc : c < 8) (hS : I 300 v = nI S) (hS2 : S < 256) (hS3 : ∀ k, k < W.nc → S.testBit k = L.bur k) (h0 : I' 300 v = nI (S ||| 2 ^ c)) (h4 : ∀ k, k < W.nm → I' 304 (7 * v + k) = if o = some k then -1 else I 304 (7 * v + k)) (hf : ∀ c j, c ≠ 304 → c ≠ 300 → I' c j = I c j) : LM W v (L.burn c o) I' := by
  obtain ⟨g1, -, ⟨G, g5, g6, g7⟩, g8, g9⟩ := hL
  have h2c : (2 : Nat) ^ c < 2 ^ 8 := Nat.pow_lt_pow_right (by decide) hc
  refine ⟨(hf _ _ (by decide) (by decide)).trans g1, ⟨S ||| 2 ^ c, h0, Nat.or_lt_two_pow (n := 8) hS2 h2c, fun k hk => ?_⟩, ⟨G, (hf _ _ (by decide) (by decide)).trans g5, g6, g7⟩, fun k hk => (hf _ _ (by decide) (by decide)).trans (g8 k hk), fun k hk => ⟨(hf _ _ (by decide) (by decide)).trans (g9 k hk).1, (hf _ _ (by decide) (by decide)).trans (g9 k hk).2.1, ?_, (hf _ _ (by decide) (by decide)).trans (g9 k hk).2.2.2⟩⟩
  · rw [Nat.testBit_or, hS3 k hk, Nat.testBit_two_pow, burn_bur]
    by_cases e : k = c
    · rw [if_pos e, e]; simp
    · rw [if_neg e, decide_eq_false (fun z => e z.symm), Bool.or_false]
  · rw [h4 k hk, burn_wor]
    by_cases e : o = some k
    · rw [if_pos e, if_pos e]; rfl
    · rw [if_neg e, if_neg e]; exact (g9 k hk).2.2.1
/-- PegCoatsModel.burns -/
theorem s253 (hh : 2 ≤ h) {s : Nat} (hB : I 276 13 = nI B) (hW : WM W B I) (hL : LM W 0 L I) (hV : LV W L) (hs : J 276 54 = lN s) (hs2 : s < 2 ^ 31) (hc0 : 0 < W.nc) (q0 : L.bur (nxd s / 64 % W.nc) = true → Q (some (.int 0)) (zc n, I, pj_u J 276 54 (lN (nxd s))))
    (q1 : L.bur (nxd s / 64 % W.nc) = false → ∀ I', LM W 0 (L.burn (nxd s / 64 % W.nc) (wr W L (nxd s / 64 % W.nc))) I' → pj_fr (nS 0) I I' → Q (some (.int 1)) (zc n, I', pj_u J 276 54 (lN (nxd s)))) : pj_D h 253 [.ref 276] (zc n, I, J) Q := by
  obtain ⟨w1, w2, w0, w3, w4, w5⟩ := hW
  obtain ⟨S, g2, g3, g4⟩ := hL.2.1
  refine pj_ent (g := 1) hh (t := mt_253) rfl rfl (v253_0 (pj_D_le 1) I J ?_)
  rw [hB, nI_clamp (n := B) (by omega), w3]
  refine ⟨vp_in_nI w0 (by decide), s252 (Nat.le_refl 1) hs hs2 hc0 (by omega) (kI_i ?_)⟩
  generalize hcc : nxd s / 64 % W.nc = c at q0 q1 ⊢
  have hc : c < W.nc := by rw [← hcc]; exact Nat.mod_lt _ hc0
  rw [g2]
  refine s207 (Nat.le_refl 1) (by omega) (by omega) (kI_i ?_)
  rw [g4 c hc]
  cases e : L.bur c with
  | true => exact ⟨fun z => absurd z (by decide), fun _ => q0 e⟩
  | false =>
    refine ⟨fun _ => ?_, fun z => absurd rfl z⟩
    have q1 := q1 e
    refine s209 (Nat.le_refl 1) (v := 0) (by decide) hB w0 w4 w2 (kI_i ?_)
    rw [wr_M w1 hL hV (by omega), g2, sh_1 (by omega), nb_or]
    have hw := wo_none (o := wr W L c) (fun m e => by have := wr_lt e; omega)
    cases e2 : wr W L c with
    | none =>
      rw [e2] at q1
      refine ⟨fun _ => q1 _ (LM_burn hL (by omega) g2 g3 g4 pj_u_e (fun k _ => ?_) (fun c' j _ c0 => pj_u_n c0)) (pj_fr_u pj_fr_rf rfl), fun z => absurd rfl z⟩
      rw [if_neg (by intro z; cases z), pj_u_n (by decide)]
    | some m =>
      have hm := wr_lt e2
      rw [e2] at q1 hw
      refine ⟨fun z => absurd (hw.mp z) (by intro y; cases y), fun _ => ⟨pk_in m 154 (by omega), ?_⟩⟩
      have ec : (wo (some m)).toNatClampNeg = m := nI_clamp (n := m) (by omega)
      rw [ec]
      have s4 : nS 0 304 m = true := rg_t (a := 7 * 0) (b := 7 * 0 + 7) (j := m) (by omega) (by omega)
      refine q1 _ (LM_burn hL (by omega) g2 g3 g4 pj_u_e (fun k _ => ?_) (fun c' j c4 c0 => (pj_u_n c0).trans (pj_u_n c4))) (pj_fr_u (pj_fr_u pj_fr_rf s4) rfl)
      rw [Nat.mul_zero, Nat.zero_add, pj_u_n (by decide)]
      by_cases e3 : some m = some k
      · cases e3
        rw [if_pos rfl, pj_u_e]
      · rw [if_neg e3, pj_u_j (fun z => e3 (by rw [z]))]
end PMb
