/-! the reference's works -/
theorem fin_stl {m : Nat} {f : Nat → Nat} {r ct : Nat} {a : Sa} (hr : r + (ct + 1) = 80) : bd (stf (sgn m f) a) (stl (sgn m f) r (ct + 1)) = bd (fin (sgn m f) (ct + 1) (stm (sgn m f) a)) (stl (sgn m f) r (ct + 1)) ∧ (r = 0 → ∀ b, fin (sgn m f) (ct + 1) (stm (sgn m f) a) = .ok b → (sgn m f b.1).k = 0) ∧ ∀ b, fin (sgn m f) (ct + 1) (stm (sgn m f) a) = .ok b → stf (sgn m f) a = .ok b := by
  unfold stf
  cases stm (sgn m f) a with
  | error e => exact ⟨rfl, fun _ b z => (by cases z), fun b z => (by cases z)⟩
  | ok c =>
    by_cases cr : isS (sgn m f c.1) 59 = true ∧ ct + 1 = 80 ∧ (sgn m f (sgn m f c.1).nx).k ≠ 0
    · have u : fin (sgn m f) (ct + 1) (.ok c) = .error (6, (sgn m f (sgn m f c.1).nx).st) := if_pos cr
      have r0 : r = 0 := by omega
      subst r0
      refine ⟨?_, fun _ b z => ?_, fun b z => ?_⟩
      · rw [u, bd_o]
        unfold exS
        rw [cr.1]
        show stl (sgn m f) 0 (ct + 1) ((sgn m f c.1).nx, c.2) = .error (6, (sgn m f (sgn m f c.1).nx).st)
        exact if_neg cr.2.2
      · rw [u] at z; cases z
      · rw [u] at z; cases z
    · have u : fin (sgn m f) (ct + 1) (.ok c) = bd (exS (sgn m f) 59 c.1) fun q => .ok (q, c.2) := if_neg cr
      refine ⟨by rw [u, bd_o], fun r0 b z => ?_, fun b z => by rw [u] at z; exact z⟩
      rw [u] at z
      obtain ⟨x, e1, z⟩ := bd_ok z
      cases z
      have e2 := exS_ok e1
      show (sgn m f x).k = 0
      rw [e2.2]
      by_cases y : (sgn m f (sgn m f c.1).nx).k = 0
      · exact y
      · exact absurd ⟨e2.1, by omega, y⟩ cr
/-- the other bank stays -/
theorem MW_o {W : Wk} {B C : Nat} {I I' : Nat → Nat → Int32} {J J' : Nat → Nat → Int64} (hB : C < 2) (hBC : B ≠ C) (hf : ∀ c j, 278 ≤ c → c ≤ 289 → okM C c j → I' c j = I c j) (hj : FJ C J J') (h : MW W B I J) : MW W B I' J' := by
  obtain ⟨⟨w1, w2, w3, w4, w5, w6⟩, w7, w8, w9, w10⟩ := h
  have g : ∀ c j, 278 ≤ c → c ≤ 289 → okM C c j → I' c j = I c j := hf
  have o : ∀ c j, 278 ≤ c → c ≤ 289 → (c = 278 ∨ c = 281 ∨ c = 285 → j = B) → (c = 279 ∨ c = 280 → 8 * B ≤ j ∧ j < 8 * B + 8) → (c = 282 ∨ c = 283 ∨ c = 284 → 7 * B ≤ j ∧ j < 7 * B + 7) → (c = 286 ∨ c = 287 → 3 * B ≤ j ∧ j < 3 * B + 3) → (c = 288 ∨ c = 289 → 1600 * B ≤ j ∧ j < 1600 * B + 1600) → I' c j = I c j := fun c j h1 h2 h3 h4 h5 h6 h7 => g c j h1 h2 ⟨fun z => by omega, fun z => by have := h3 z; omega, fun z => by have := h4 z; omega, fun z => by have := h5 z; omega, fun z => by have := h6 z; omega, fun z => by have := h7 z; omega, by omega⟩
  refine ⟨⟨w1, w2, w3, (o 278 B (by decide) (by decide) (by omega) (by omega) (by omega) (by omega) (by omega)).trans w4, (o 281 B (by decide) (by decide) (by omega) (by omega) (by omega) (by omega) (by omega)).trans w5, fun k hk => ⟨(o 279 _ (by decide) (by decide) (by omega) (by omega) (by omega) (by omega) (by omega)).trans (w6 k hk).1, (o 280 _ (by decide) (by decide) (by omega) (by omega) (by omega) (by omega) (by omega)).trans (w6 k hk).2⟩⟩, fun p hp => ?_, (o 285 B (by decide) (by decide) (by omega) (by omega) (by omega) (by omega) (by omega)).trans w8, fun k hk => (hj _ _ ⟨fun z => by omega, fun z => by omega, fun z => by omega⟩).trans (w9 k hk), fun k hk => ⟨(hj _ _ ⟨fun z => by omega, fun z => by omega, fun z => by omega⟩).trans (w10 k hk).1, (o 282 _ (by decide) (by decide) (by omega) (by omega) (by omega) (by omega) (by omega)).trans (w10 k hk).2.1, (o 283 _ (by decide) (by decide) (by omega) (by omega) (by omega) (by omega) (by omega)).trans (w10 k hk).2.2.1, (o 284 _ (by decide) (by decide) (by omega) (by omega) (by omega) (by omega) (by omega)).trans (w10 k hk).2.2.2⟩⟩
  have t := w7 p hp
  cases e : W.pr p with
  | none =>
    rw [e] at t
    exact (o 286 _ (by decide) (by decide) (by omega) (by omega) (by omega) (by omega) (by omega)).trans t
  | some ts =>
    rw [e] at t
    obtain ⟨x, t1, t2, t3, t4⟩ := t
    exact ⟨x, (o 286 _ (by decide) (by decide) (by omega) (by omega) (by omega) (by omega) (by omega)).trans t1, (o 287 _ (by decide) (by decide) (by omega) (by omega) (by omega) (by omega) (by omega)).trans t2, t3, MC_fr (fun j h1 h2 => ⟨o 288 j (by decide) (by decide) (by omega) (by omega) (by omega) (by omega) (by omega), o 289 j (by decide) (by decide) (by omega) (by omega) (by omega) (by omega) (by omega)⟩) t4⟩
theorem MWp_MW {W : Wk} {B : Nat} {C : List Tk} {I : Nat → Nat → Int32} {J : Nat → Nat → Int64} (h : MWp W B C I J) (hl : C.length ≤ 1600) (hC : MC (1600 * B) C I) : MW W B I J := by
  obtain ⟨w1, w7, w8, w9, w10⟩ := h
  refine ⟨w1, fun p hp => ?_, w8, w9, w10⟩
  have t := w7 p hp
  cases e : W.pr p with
  | none => rw [e] at t; exact t
  | some ts =>
    rw [e] at t
    obtain ⟨x, y, t1, t2, t3⟩ := t
    have le : x.length + ts.length ≤ C.length := by rw [t1]; simp only [List.length_append]; omega
    rw [t1] at hC
    exact ⟨x.length, t2, t3, by omega, (MC_app.mp (MC_app.mp hC).2).1⟩
section PMb
variable {n h : Nat} {Q : pj_K} {I : Nat → Nat → Int32} {J : Nat → Nat → Int64} {W : Wk} {B : Nat}
/-- begin -/
theorem m199 (hh : 1 ≤ h) (hB : I 276 13 = nI B) (hW : MW W B I J) (hV : WV W) (q : ∀ I', (∀ c j, c < 299 ∨ 307 < c → ¬ (c = 276 ∧ (j = 53 ∨ j = 60)) → I' c j = I c j) → LM W 0 (bgL W) I' → I' 307 0 = 0 → I' 276 53 = 0 → I' 276 60 = 0 → Q none (zc n, I', J)) : pj_D h 199 [.ref 276] (zc n, I, J) Q := by
  obtain ⟨⟨h8, h7, hB2, h12, h13, -⟩, -, -, -, wm⟩ := hW
  refine pj_ent (g := 0) hh (t := mt_199) rfl rfl (v199_0 (pj_D_le 0) I J ?_)
  have vB : vp_in (nI B) 2 := vp_in_nI hB2 (by decide)
  have l2 : ∀ r k, r + k = W.nm → ∀ I1, (∀ c j, c < 299 ∨ 307 < c → I1 c j = I c j) → (I1 299 0 = 0 ∧ I1 300 0 = 0 ∧ I1 306 0 = 0) → (∀ c, c < 8 → ((∀ j, j < k → W.mco j ≠ some c) → I1 301 c = 0) ∧ (∀ j, j < k → W.mco j = some c → I1 301 c = 1)) → (∀ j, j < k → I1 302 j = nI (W.msz j) ∧ I1 303 j = nI (W.mag j) ∧ I1 304 j = wo (W.mco j) ∧ I1 305 j = 0) → pj_R (pj_D 0) ta mc_199 false Q 44 [some (.ref 276), some (.int (nI k))] [] (zc n) I1 J 0 0 := by
    intro r
    induction r with
    | zero =>
      intro k hk I1 f1 z1 c1 m1
      have ek : k = W.nm := by omega
      subst ek
      refine v199_44 (pj_D_le 0) I1 J _ ?_
      rw [f1 276 13 (by decide), hB, nI_clamp (by omega), f1 281 B (by decide), h13]
      have g : ∀ c j, c ≠ 307 → c ≠ 276 → (pj_u (pj_u (pj_u I1 307 0 0) 276 53 0) 276 60 0) c j = I1 c j := fun c j h1 h2 => by rw [pj_u_n h2, pj_u_n h2, pj_u_n h1]
      refine ⟨vB, pk_le W.nm W.nm (fun _ => q _ (fun c j h1 h2 => ?_) ⟨?_, ⟨0, ?_, by decide, fun k _ => Nat.zero_testBit k⟩, ⟨0, ?_, by decide, fun k _ => Nat.zero_testBit k⟩, fun k hk => ?_, fun k hk => ?_⟩ ?_ ?_ pj_u_e) (fun c => by omega)⟩
      · by_cases e : c = 276
        · subst e
          rw [pj_u_j (by omega), pj_u_j (by omega), pj_u_n (by decide)]
          exact f1 276 j h1
        · rw [pj_u_n e, pj_u_n e, pj_u_n (by omega)]
          exact f1 c j h1
      · exact (g _ _ (by decide) (by decide)).trans z1.1
      · exact (g _ _ (by decide) (by decide)).trans z1.2.1
      · exact (g _ _ (by decide) (by decide)).trans z1.2.2
      · rw [Nat.mul_zero, Nat.zero_add, g _ _ (by decide) (by decide)]
        show I1 301 k = nI (if (fwr W k).isSome = true then 1 else 0)
        cases e : fwr W k with
        | none => exact (c1 k (by omega)).1 (fun j hj => fwr_s e hj)
        | some j =>
          have := ff_some e
          exact (c1 k (by omega)).2 j (by omega) (of_decide_eq_true this.2.2)
      · rw [Nat.mul_zero, Nat.zero_add, g _ _ (by decide) (by decide), g _ _ (by decide) (by decide), g _ _ (by decide) (by decide), g _ _ (by decide) (by decide)]
        exact m1 k hk
      · rw [pj_u_n (by decide), pj_u_n (by decide), pj_u_e]
      · rw [pj_u_j (by decide), pj_u_e]
    | succ r ih =>
      intro k hk I1 f1 z1 c1 m1
      refine v199_44 (pj_D_le 0) I1 J _ ?_
      rw [f1 276 13 (by decide), hB, li_7, nI_clamp (by omega), nI_clamp (by omega), nI_clamp (by omega), f1 281 B (by decide), h13, pj_u_e, f1 282 _ (by decide), f1 283 _ (by decide), f1 284 _ (by decide), nI_1]
      have w := wm k (by omega)
      rw [w.2.1, w.2.2.1, w.2.2.2]
      have v1 : vp_in (nI (7 * B + k)) 14 := vp_in_nI (by omega) (by decide)
      have v2 : vp_in (nI k) 154 := vp_in_nI (by omega) (by decide)
      have bnd : ∀ c, W.mco k = some c → c < 8 := fun c e => by have := hV.2.2.2.2.1 k c (by omega) e; omega
      have men : ∀ j, j < k + 1 → (pj_u (pj_u (pj_u (pj_u I1 302 k (nI (W.msz k))) 303 k (nI (W.mag k))) 304 k (wo (W.mco k))) 305 k 0) 302 j = nI (W.msz j) ∧ (pj_u (pj_u (pj_u (pj_u I1 302 k (nI (W.msz k))) 303 k (nI (W.mag k))) 304 k (wo (W.mco k))) 305 k 0) 303 j = nI (W.mag j) ∧ (pj_u (pj_u (pj_u (pj_u I1 302 k (nI (W.msz k))) 303 k (nI (W.mag k))) 304 k (wo (W.mco k))) 305 k 0) 304 j = wo (W.mco j) ∧ (pj_u (pj_u (pj_u (pj_u I1 302 k (nI (W.msz k))) 303 k (nI (W.mag k))) 304 k (wo (W.mco k))) 305 k 0) 305 j = 0 := fun j hj => by
        by_cases e : j = k
        · subst e
          exact ⟨by rw [pj_u_n (by decide), pj_u_n (by decide), pj_u_n (by decide), pj_u_e], by rw [pj_u_n (by decide), pj_u_n (by decide), pj_u_e], by rw [pj_u_n (by decide), pj_u_e], pj_u_e⟩
        · have t := m1 j (by omega)
          exact ⟨by rw [pj_u_n (by decide), pj_u_n (by decide), pj_u_n (by decide), pj_u_j e]; exact t.1, by rw [pj_u_n (by decide), pj_u_n (by decide), pj_u_j e, pj_u_n (by decide)]; exact t.2.1, by rw [pj_u_n (by decide), pj_u_j e, pj_u_n (by decide), pj_u_n (by decide)]; exact t.2.2.1, by rw [pj_u_j e, pj_u_n (by decide), pj_u_n (by decide), pj_u_n (by decide)]; exact t.2.2.2⟩
      refine ⟨vB, pk_le W.nm k (fun c => by omega) (fun c => ⟨v1, v2, v1, v2, v1, v2, v2, v2, ?_⟩)⟩
      rw [wo_none (fun d e => by have := bnd d e; omega)]
      cases e : W.mco k with
      | none =>
        rw [e] at men
        refine ⟨fun _ => ih (k + 1) (by omega) _ (fun c j hc => ?_) ⟨?_, ?_, ?_⟩ (fun c hc => ⟨fun hn => ?_, fun j hj hm => ?_⟩) men, fun z => absurd rfl z⟩
        · rw [pj_u_n (by omega), pj_u_n (by omega), pj_u_n (by omega), pj_u_n (by omega)]; exact f1 c j hc
        · rw [pj_u_n (by decide), pj_u_n (by decide), pj_u_n (by decide), pj_u_n (by decide)]; exact z1.1
        · rw [pj_u_n (by decide), pj_u_n (by decide), pj_u_n (by decide), pj_u_n (by decide)]; exact z1.2.1
        · rw [pj_u_n (by decide), pj_u_n (by decide), pj_u_n (by decide), pj_u_n (by decide)]; exact z1.2.2
        · rw [pj_u_n (by decide), pj_u_n (by decide), pj_u_n (by decide), pj_u_n (by decide)]; exact (c1 c hc).1 (fun j hj => hn j (by omega))
        · rw [pj_u_n (by decide), pj_u_n (by decide), pj_u_n (by decide), pj_u_n (by decide)]
          by_cases y : j = k
          · rw [y, e] at hm; cases hm
          · exact (c1 c hc).2 j (by omega) hm
      | some d =>
        rw [e] at men
        have d8 := bnd d e
        rw [show wo (some d) = nI d from rfl] at men ⊢
        rw [nI_clamp (by omega)]
        refine ⟨fun z => (by cases z), fun _ => ⟨v2, vp_in_nI (by omega) (by decide), ih (k + 1) (by omega) _ (fun c j hc => ?_) ⟨?_, ?_, ?_⟩ (fun c hc => ⟨fun hn => ?_, fun j hj hm => ?_⟩) (fun j hj => ?_)⟩⟩
        · rw [pj_u_n (by omega), pj_u_n (by omega), pj_u_n (by omega), pj_u_n (by omega), pj_u_n (by omega)]; exact f1 c j hc
        · rw [pj_u_n (by decide), pj_u_n (by decide), pj_u_n (by decide), pj_u_n (by decide), pj_u_n (by decide)]; exact z1.1
        · rw [pj_u_n (by decide), pj_u_n (by decide), pj_u_n (by decide), pj_u_n (by decide), pj_u_n (by decide)]; exact z1.2.1
        · rw [pj_u_n (by decide), pj_u_n (by decide), pj_u_n (by decide), pj_u_n (by decide), pj_u_n (by decide)]; exact z1.2.2
        · have cd : c ≠ d := fun y => hn k (by omega) (by rw [e, y])
          rw [pj_u_j cd, pj_u_n (by decide), pj_u_n (by decide), pj_u_n (by decide), pj_u_n (by decide)]; exact (c1 c hc).1 (fun j hj => hn j (by omega))
        · by_cases y : c = d
          · rw [y, pj_u_e]
          · rw [pj_u_j y, pj_u_n (by decide), pj_u_n (by decide), pj_u_n (by decide), pj_u_n (by decide)]
            by_cases y2 : j = k
            · rw [y2, e] at hm; cases hm; exact absurd rfl y
            · exact (c1 c hc).2 j (by omega) hm
        · have t := men j hj
          exact ⟨(pj_u_n (by decide)).trans t.1, (pj_u_n (by decide)).trans t.2.1, (pj_u_n (by decide)).trans t.2.2.1, (pj_u_n (by decide)).trans t.2.2.2⟩
  suffices l1 : ∀ r k, r + k = 8 → ∀ I1, (∀ c j, c < 299 ∨ 307 < c → I1 c j = I c j) → (I1 299 0 = 0 ∧ I1 300 0 = 0 ∧ I1 306 0 = 0) → (∀ c, c < k → I1 301 c = 0) → pj_R (pj_D 0) ta mc_199 false Q 23 [some (.ref 276), some (.int (nI k))] [] (zc n) I1 J 0 0 by
    refine l1 8 0 rfl _ (fun c j hc => ?_) ⟨?_, ?_, pj_u_e⟩ (fun c hc => absurd hc (Nat.not_lt_zero _))
    · rw [pj_u_n (by omega), pj_u_n (by omega), pj_u_n (by omega)]
    · rw [pj_u_n (by decide), pj_u_n (by decide), pj_u_e]
    · rw [pj_u_n (by decide), pj_u_e]
  intro r
  induction r with
  | zero =>
    intro k hk I1 f1 z1 c1
    exact v199_23 (pj_D_le 0) I1 J _ (pk_le 8 k (fun _ => l2 W.nm 0 rfl I1 f1 z1 (fun c hc => ⟨fun _ => c1 c (by omega), fun j hj => absurd hj (Nat.not_lt_zero _)⟩) (fun j hj => absurd hj (Nat.not_lt_zero _))) (fun c => by omega))
  | succ r ih =>
    intro k hk I1 f1 z1 c1
    refine v199_23 (pj_D_le 0) I1 J _ ?_
    rw [nI_clamp (by omega), nI_1]
    refine pk_le 8 k (fun c => by omega) (fun c => ⟨vp_in_nI (by omega) (by decide), ih (k + 1) (by omega) _ (fun c j hc => ?_) ⟨?_, ?_, ?_⟩ (fun c hc => ?_)⟩)
    · rw [pj_u_n (by omega)]; exact f1 c j hc
    · rw [pj_u_n (by decide)]; exact z1.1
    · rw [pj_u_n (by decide)]; exact z1.2.1
    · rw [pj_u_n (by decide)]; exact z1.2.2
    · by_cases e : c = k
      · rw [e, pj_u_e]
      · rw [pj_u_j e]; exact c1 c (by omega)
end PMb
