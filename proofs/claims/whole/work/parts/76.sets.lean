/-! changes of what class and reference stand for -/
def Ab.sL (A : Ab) (L : Ly) : Ab := (A.tp, A.W, L, A.kp, A.hs, A.rf, A.sd, A.ft, A.rw, A.pc)
def Ab.ref (A : Ab) (k : Nat) : Ab := (A.tp, A.W, A.L, A.kp, A.hs, upd1 A.rf k (A.rf k + 1), A.sd, A.ft, A.rw, A.pc)
def Ab.sS (A : Ab) (s : Nat) : Ab := (A.tp, A.W, A.L, A.kp, A.hs, A.rf, s, A.ft, A.rw, A.pc)
def Ab.sT (A : Ab) (t : Nat × (Nat → Nat)) : Ab := (t, A.W, A.L, A.kp, A.hs, A.rf, A.sd, A.ft, A.rw, A.pc)
def Ab.sK (A : Ab) (L : Ly) (k : Nat × (Nat → Nat × Nat × Nat)) : Ab := (A.tp, A.W, L, k, A.hs, A.rf, A.sd, A.ft, A.rw, A.pc)
def Ab.push (A : Ab) : Ab := (A.tp, A.W, A.L, A.kp, (if A.hs.1 + 1 < 20 then A.hs.1 + 1 else 20, fun i => if i = 0 then (A.L, A.kp.1) else A.hs.2 (i - 1)), A.rf, A.sd, A.ft, A.rw, A.pc)
def Ab.pop (A : Ab) : Ab := (A.tp, A.W, (A.hs.2 0).1, ((A.hs.2 0).2, A.kp.2), (A.hs.1 - 1, fun i => A.hs.2 (i + 1)), A.rf, A.sd, A.ft, A.rw, A.pc)
def Ab.sR (A : Ab) (r : Nat × (Nat → Nat × Nat × Option Nat)) : Ab := (A.tp, A.W, A.L, A.kp, A.hs, A.rf, A.sd, A.ft, r, A.pc)
def Ab.sP (A : Ab) (r : Nat × (Nat → Nat)) : Ab := (A.tp, A.W, A.L, A.kp, A.hs, A.rf, A.sd, A.ft, A.rw, r)
theorem InvC_ex {A A' : Ab} {I I' : Nat → Nat → Int32} (h : InvC A I) (hW : A'.W = A.W)
    (k1 : (A'.tp = A.tp ∧ ∀ c j, c = 3 ∨ c = 4 → I' c j = I c j) ∨ TC A'.tp.1 A'.tp.2 I')
    (k2 : ∀ c j, 5 ≤ c → c ≤ 15 → I' c j = I c j)
    (k3 : (A'.L = A.L ∧ (∀ c j, 36 ≤ c → c ≤ 42 → I' c j = I c j) ∧ I' 35 7 = I 35 7) ∨ LC A.W 35 A'.L I')
    (k4 : (A'.kp = A.kp ∧ I' 35 8 = I 35 8 ∧ ∀ j, I' 274 j = I 274 j) ∨ KC A'.kp.1 A'.kp.2 I')
    (k5 : (A'.hs = A.hs ∧ ∀ c j, c = 59 ∨ (61 ≤ c ∧ c ≤ 220) → I' c j = I c j) ∨ hC A' I')
    (k6 : (A'.rf = A.rf ∧ ∀ j, I' 275 j = I 275 j) ∨ ∀ k, k < 6 → I' 275 k = A'.rf k)
    (k7 : (A'.sd = A.sd ∧ I' 2 15 = I 2 15) ∨ I' 2 15 = nI A'.sd)
    (k8 : (A'.ft = A.ft ∧ I' 31 2 = I 31 2 ∧ I' 31 3 = I 31 3) ∨ (I' 31 2 = A'.ft.1 ∧ I' 31 3 = A'.ft.2))
    (k9 : (A'.rw = A.rw ∧ I' 251 4 = I 251 4 ∧ ∀ j, I' 260 j = I 260 j) ∨ (I' 251 4 = nI A'.rw.1 ∧ ∀ i, i < A'.rw.1 → I' 260 (3 * i) = nI (A'.rw.2 i).1 ∧ I' 260 (3 * i + 1) = nI (A'.rw.2 i).2.1 ∧ I' 260 (3 * i + 2) = nI ((A'.rw.2 i).2.2.getD 255)))
    (k10 : (A'.pc = A.pc ∧ ∀ c j, c = 272 ∨ c = 273 → I' c j = I c j) ∨ (I' 272 2 = nI A'.pc.1 ∧ ∀ i, i < A'.pc.1 → I' 273 i = nI (A'.pc.2 i)))
    (k11 : ∀ j, I' 33 j = I 33 j) : InvC A' I' := by
  obtain ⟨a1, a2, a3, a4, a5, a6, a7, a8, a9, a10, a11⟩ := h
  refine ⟨?_, ?_, ?_, ?_, ?_, ?_, ?_, ?_, ?_, ?_, fun k hk => (k11 k).trans (a11 k hk)⟩
  · rcases k1 with ⟨e, f⟩ | k
    · rw [e]
      exact ⟨a1.1, (f _ _ (by decide)).trans a1.2.1, fun k hk => ⟨(f _ _ (by decide)).trans (a1.2.2 k hk).1, (a1.2.2 k hk).2⟩⟩
    · exact k
  · rw [hW]
    exact CW_fr (fun c j h1 h2 => k2 c j h1 (by omega)) a2
  · rw [hW]
    rcases k3 with ⟨e, f, g⟩ | k
    · rw [e]
      exact ⟨g.trans a3.1, fun k hk => ⟨(f _ _ (by decide) (by decide)).trans (a3.2.1 k hk).1, (f _ _ (by decide) (by decide)).trans (a3.2.1 k hk).2⟩, fun k hk => ⟨(f _ _ (by decide) (by decide)).trans (a3.2.2 k hk).1, (f _ _ (by decide) (by decide)).trans (a3.2.2 k hk).2.1, (f _ _ (by decide) (by decide)).trans (a3.2.2 k hk).2.2.1, (f _ _ (by decide) (by decide)).trans (a3.2.2 k hk).2.2.2.1, (f _ _ (by decide) (by decide)).trans (a3.2.2 k hk).2.2.2.2⟩⟩
    · exact k
  · rcases k4 with ⟨e, f, g⟩ | k
    · rw [e]
      exact ⟨a4.1, f.trans a4.2.1, fun i hi => ⟨(g _).trans (a4.2.2 i hi).1, (a4.2.2 i hi).2⟩⟩
    · exact k
  · rcases k5 with ⟨e, f⟩ | k
    · have := hC_fr f a5
      unfold hC
      rw [e, hW]
      exact this
    · exact k
  · rcases k6 with ⟨e, f⟩ | k
    · rw [e]
      exact fun k hk => (f k).trans (a6 k hk)
    · exact k
  · rcases k7 with ⟨e, f⟩ | k
    · rw [e]; exact f.trans a7
    · exact k
  · rcases k8 with ⟨e, f, g⟩ | k
    · rw [e]; exact ⟨f.trans a8.1, g.trans a8.2⟩
    · exact k
  · rcases k9 with ⟨e, f, g⟩ | k
    · rw [e]
      exact ⟨f.trans a9.1, fun i hi => ⟨(g _).trans (a9.2 i hi).1, (g _).trans (a9.2 i hi).2.1, (g _).trans (a9.2 i hi).2.2⟩⟩
    · exact k
  · rcases k10 with ⟨e, f⟩ | k
    · rw [e]
      exact ⟨(f _ _ (by decide)).trans a10.1, fun i hi => (f _ _ (by decide)).trans (a10.2 i hi)⟩
    · exact k
theorem InvM_ex {A A' : Ab} {I I' : Nat → Nat → Int32} {J J' : Nat → Nat → Int64} (h : InvM A I J) (hW : A'.W = A.W)
    (k1 : (A'.tp = A.tp ∧ I' 276 1 = I 276 1 ∧ ∀ j, I' 277 j = I 277 j) ∨ TM A'.tp.1 A'.tp.2 I')
    (k2 : I' 276 13 = I 276 13 ∧ (∀ c j, 278 ≤ c → c ≤ 289 → I' c j = I c j) ∧ ∀ c j, 290 ≤ c → c ≤ 291 → J' c j = J c j)
    (k3 : LM A.W 0 A'.L I') (k4 : KM 0 A'.kp.1 A'.kp.2 I') (k5 : hM A' I')
    (k6 : (A'.rf = A.rf ∧ ∀ j, I' 298 j = I 298 j) ∨ ∀ k, k < 6 → I' 298 k = A'.rf k)
    (k7 : (A'.sd = A.sd ∧ J' 276 54 = J 276 54) ∨ J' 276 54 = lN A'.sd)
    (k8 : (A'.ft = A.ft ∧ I' 276 10 = I 276 10 ∧ I' 276 11 = I 276 11) ∨ (I' 276 10 = A'.ft.1 ∧ I' 276 11 = A'.ft.2))
    (k9 : (A'.rw = A.rw ∧ I' 276 60 = I 276 60 ∧ ∀ c j, 314 ≤ c → c ≤ 316 → I' c j = I c j) ∨ (I' 276 60 = nI A'.rw.1 ∧ ∀ i, i < A'.rw.1 → I' 314 i = nI (A'.rw.2 i).1 ∧ I' 315 i = nI (A'.rw.2 i).2.1 ∧ I' 316 i = wo (A'.rw.2 i).2.2))
    (k10 : (A'.pc = A.pc ∧ I' 276 66 = I 276 66 ∧ ∀ j, I' 318 j = I 318 j) ∨ (I' 276 66 = nI A'.pc.1 ∧ ∀ i, i < A'.pc.1 → I' 318 i = nI (A'.pc.2 i))) : InvM A' I' J' := by
  obtain ⟨a1, ⟨B, b1, b2⟩, a3, a4, a5, a6, a7, a8, a9, a10, a11⟩ := h
  refine ⟨?_, ⟨B, k2.1.trans b1, ?_⟩, ?_, k4, k5, ?_, ?_, ?_, ?_, ?_⟩
  · rcases k1 with ⟨e, f, g⟩ | k
    · rw [e]
      exact ⟨a1.1, f.trans a1.2.1, fun k hk => ⟨(g _).trans (a1.2.2 k hk).1, (a1.2.2 k hk).2⟩⟩
    · exact k
  · rw [hW]; exact MW_fr k2.2.1 k2.2.2 b2
  · rw [hW]; exact k3
  · rcases k6 with ⟨e, f⟩ | k
    · rw [e]; exact fun k hk => (f k).trans (a6 k hk)
    · exact k
  · rcases k7 with ⟨e, f⟩ | k
    · rw [e]; exact f.trans a7
    · exact k
  · rcases k8 with ⟨e, f, g⟩ | k
    · rw [e]; exact ⟨f.trans a8.1, g.trans a8.2⟩
    · exact k
  · rcases k9 with ⟨e, f, g⟩ | k
    · rw [e]
      exact ⟨f.trans a9.1, fun i hi => ⟨(g _ _ (by decide) (by decide)).trans (a9.2 i hi).1, (g _ _ (by decide) (by decide)).trans (a9.2 i hi).2.1, (g _ _ (by decide) (by decide)).trans (a9.2 i hi).2.2⟩⟩
    · exact k
  · rcases k10 with ⟨e, f, g⟩ | k
    · rw [e]; exact ⟨f.trans a10, fun i hi => (g _).trans (a11 i hi)⟩
    · exact k
section PSe
variable {n h : Nat} {Q : pj_K} {I I' : Nat → Nat → Int32} {J J' : Nat → Nat → Int64} {A : Ab}
/-- a refusal is counted -/
theorem InvC_rf {k : Nat} (hk : k < 6) (h : InvC A I) : InvC (A.ref k) (pj_u I 275 k (I 275 k + 1)) := by
  have f : ∀ c j, c ≠ 275 → pj_u I 275 k (I 275 k + 1) c j = I c j := fun c j hc => pj_u_n hc
  refine InvC_ex h rfl (Or.inl ⟨rfl, fun c j hc => f c j (by omega)⟩) (fun c j h1 h2 => f c j (by omega)) (Or.inl ⟨rfl, fun c j h1 h2 => f c j (by omega), f _ _ (by decide)⟩) (Or.inl ⟨rfl, f _ _ (by decide), fun j => f _ _ (by decide)⟩) (Or.inl ⟨rfl, fun c j hc => f c j (by omega)⟩) (Or.inr (fun i hi => ?_)) (Or.inl ⟨rfl, f _ _ (by decide)⟩) (Or.inl ⟨rfl, f _ _ (by decide), f _ _ (by decide)⟩) (Or.inl ⟨rfl, f _ _ (by decide), fun j => f _ _ (by decide)⟩) (Or.inl ⟨rfl, fun c j hc => f c j (by omega)⟩) (fun j => f _ _ (by decide))
  have a6 := h.2.2.2.2.2.1
  show _ = upd1 A.rf k (A.rf k + 1) i
  by_cases e : i = k
  · subst e; rw [pj_u_e, upd1_e, a6 i hi]
  · rw [pj_u_j e, upd1_n e]; exact a6 i hi
theorem hM_eq {A' : Ab} (hW : A'.W = A.W) (hs : A'.hs = A.hs) (hk : A'.kp.2 = A.kp.2) (h : hM A I) : hM A' I := by
  unfold hM
  rw [hW, hs, hk]
  exact h
theorem InvM_rf {k : Nat} (hA : AV A) (hk : k < 6) (h : InvM A I J) : InvM (A.ref k) (pj_u I 298 k (I 298 k + 1)) J := by
  have f : ∀ c j, c ≠ 298 → pj_u I 298 k (I 298 k + 1) c j = I c j := fun c j hc => pj_u_n hc
  have g : ∀ c j, 299 ≤ c → c ≤ 308 → mS 1 c j = false → pj_u I 298 k (I 298 k + 1) c j = I c j := fun c j h1 h2 _ => f c j (by omega)
  have a6 := h.2.2.2.2.2.1
  refine InvM_ex h rfl (Or.inl ⟨rfl, f _ _ (by decide), fun j => f _ _ (by decide)⟩) ⟨f _ _ (by decide), fun c j h1 h2 => f c j (by omega), fun c j _ _ => rfl⟩ (LM_x hA.2.1 hA.2.2.1 (by decide) g h.2.2.1) (KM_x (by decide) g h.2.2.2.1) (hM_eq (A := A) rfl rfl rfl (hM_x hA.2.1 hA.2.2.1 (by decide) (f _ _ (by decide)) (f _ _ (by decide)) g h.2.2.2.2.1)) (Or.inr (fun i hi => ?_)) (Or.inl ⟨rfl, rfl⟩) (Or.inl ⟨rfl, f _ _ (by decide), f _ _ (by decide)⟩) (Or.inl ⟨rfl, f _ _ (by decide), fun c j h1 h2 => f c j (by omega)⟩) (Or.inl ⟨rfl, f _ _ (by decide), fun j => f _ _ (by decide)⟩)
  show _ = upd1 A.rf k (A.rf k + 1) i
  by_cases e : i = k
  · subst e; rw [pj_u_e, upd1_e, a6 i hi]
  · rw [pj_u_j e, upd1_n e]; exact a6 i hi
theorem AV_rf {k : Nat} (h : AV A) : AV (A.ref k) := h
/-- only the layer now changes -/
theorem InvC_L {L' : Ly} (h : InvC A I) (hf : ∀ c j, (c < 36 ∧ (c ≠ 35 ∨ j ≠ 7)) ∨ 42 < c → kC c j = true → I' c j = I c j) (hL : LC A.W 35 L' I') : InvC (A.sL L') I' := by
  have f : ∀ c j, (c ≤ 15 ∨ c = 33 ∨ c = 59 ∨ (61 ≤ c ∧ c ≤ 220) ∨ c = 260 ∨ (272 ≤ c ∧ c ≤ 275)) → I' c j = I c j := fun c j hc => hf c j (by omega) (kC_r (by omega))
  exact InvC_ex h rfl (Or.inl ⟨rfl, fun c j hc => f c j (by omega)⟩) (fun c j h1 h2 => f c j (by omega)) (Or.inr hL) (Or.inl ⟨rfl, hf _ _ (by omega) rfl, fun j => f _ _ (by omega)⟩) (Or.inl ⟨rfl, fun c j hc => f c j (by omega)⟩) (Or.inl ⟨rfl, fun j => f _ _ (by omega)⟩) (Or.inl ⟨rfl, f _ _ (by omega)⟩) (Or.inl ⟨rfl, hf _ _ (by omega) rfl, hf _ _ (by omega) rfl⟩) (Or.inl ⟨rfl, hf _ _ (by omega) rfl, fun j => f _ _ (by omega)⟩) (Or.inl ⟨rfl, fun c j hc => f c j (by omega)⟩) (fun j => f _ _ (by omega))
/-- the reference: only the layer now (and what is tried with) changes -/
def nM : Nat → Nat → Bool := fun c j => mS 0 c j || qM c j
theorem nM_f {c j : Nat} (h : (c < 299 ∨ 313 < c) ∧ c ≠ 317) : nM c j = false := by
  unfold nM
  rw [mS_f (by omega), qM_f h]
  rfl
theorem hM_0 (hA : AV A) (e1 : I' 276 52 = I 276 52) (e2 : I' 276 53 = I 276 53) (hf : ∀ c j, 299 ≤ c → c ≤ 308 → nM c j = false → I' c j = I c j) (h : hM A I) : hM A I' := by
  obtain ⟨u, h1, h2, h3, h4⟩ := h
  have mid : ∀ c j, 299 ≤ c → c ≤ 308 → mS 0 c j = false → mS 1 c j = false → I' c j = I c j := fun c j a1 a2 a3 a4 => hf c j a1 a2 (by unfold nM; rw [a3, qM_8 a1 a2 a4]; rfl)
  -- by way of one that differs in layer 1 alone
  let X : Nat → Nat → Int32 := fun c j => if mS 1 c j = true then I' c j else I c j
  have x1 : ∀ c j, 299 ≤ c → c ≤ 308 → mS 1 c j = false → X c j = I c j := fun c j _ _ a => if_neg (by rw [a]; decide)
  have x2 : ∀ c j, 299 ≤ c → c ≤ 308 → mS 0 c j = false → I' c j = X c j := fun c j a1 a2 a => by
    show I' c j = if mS 1 c j = true then I' c j else I c j
    cases e : mS 1 c j with
    | true => rw [if_pos rfl]
    | false => rw [if_neg (by decide)]; exact mid c j a1 a2 a e
  exact ⟨u, h1, e1.trans h2, e2.trans h3, fun i hi => ⟨LM_x hA.2.1 hA.2.2.1 (by omega) x2 (LM_x hA.2.1 hA.2.2.1 (by omega) x1 (h4 i hi).1), KM_x (by omega) x2 (KM_x (by omega) x1 (h4 i hi).2)⟩⟩
theorem InvM_K {L' : Ly} {k' : Nat × (Nat → Nat × Nat × Nat)} (hA : AV A) (h : InvM A I J) (hf : pj_fr nM I I') (hj : pj_fr sS J J') (hL : LM A.W 0 L' I') (hK : KM 0 k'.1 k'.2 I') (hk : ∀ i, i < A.hs.1 → ∀ j, j < (A.hs.2 i).2 → k'.2 j = A.kp.2 j) : InvM (A.sK L' k') I' J' := by
  have f : ∀ c j, ((c < 299 ∨ 313 < c) ∧ c ≠ 317) → I' c j = I c j := fun c j hc => hf c j (nM_f hc)
  have gj : ∀ c j, c ≠ 309 → J' c j = J c j := fun c j hc => hj c j (beq_eq_false_iff_ne.mpr hc)
  have h5 := hM_0 hA (f _ _ (by omega)) (f _ _ (by omega)) (fun c j _ _ hc => hf c j hc) h.2.2.2.2.1
  have h5' : hM (A.sK L' k') I' := by
    obtain ⟨u, h1, h2, h3, h4⟩ := h5
    refine ⟨u, h1, h2, h3, fun i hi => ⟨(h4 i hi).1, (h4 i hi).2.1, fun j hj => ?_⟩⟩
    have t := tld_le (A.hs.2 i).2
    have e := hk i hi ((A.hs.2 i).2 - tld (A.hs.2 i).2 + j) (by have : j < tld (A.hs.2 i).2 := hj; omega)
    show _ = nI (k'.2 _).1 ∧ _ = nI (k'.2 _).2.1 ∧ _ = nI (k'.2 _).2.2
    rw [show (A.sK L' k').hs = A.hs from rfl, e]
    exact (h4 i hi).2.2 j hj
  exact InvM_ex h rfl (Or.inl ⟨rfl, f _ _ (by omega), fun j => f _ _ (by omega)⟩) ⟨f _ _ (by omega), fun c j h1 h2 => f c j (by omega), fun c j h1 h2 => gj c j (by omega)⟩ hL hK h5' (Or.inl ⟨rfl, fun j => f _ _ (by omega)⟩) (Or.inl ⟨rfl, gj _ _ (by decide)⟩) (Or.inl ⟨rfl, f _ _ (by omega), f _ _ (by omega)⟩) (Or.inl ⟨rfl, f _ _ (by omega), fun c j h1 h2 => f c j (by omega)⟩) (Or.inl ⟨rfl, f _ _ (by omega), fun j => f _ _ (by omega)⟩)
theorem InvM_L {L' : Ly} (hA : AV A) (h : InvM A I J) (hf : pj_fr (nS 0) I I') (hL : LM A.W 0 L' I') : InvM (A.sL L') I' J := by
  have hK : KM 0 A.kp.1 A.kp.2 I' := ⟨(hf _ _ rfl).trans h.2.2.2.1.1, fun i hi => ⟨(hf _ _ rfl).trans (h.2.2.2.1.2 i hi).1, (hf _ _ rfl).trans (h.2.2.2.1.2 i hi).2.1, (hf _ _ rfl).trans (h.2.2.2.1.2 i hi).2.2⟩⟩
  exact InvM_K (k' := A.kp) hA h (pj_fr_w (nS_m hf) (fun c j hc => by unfold nM at hc; rw [Bool.or_eq_false_iff] at hc; exact hc.1)) pj_fr_rf hL hK (fun _ _ _ _ => rfl)
/-- the next draw -/
theorem InvC_sd {s : Nat} (h : InvC A I) : InvC (A.sS s) (pj_u I 2 15 (nI s)) := by
  have f : ∀ c j, c ≠ 2 → pj_u I 2 15 (nI s) c j = I c j := fun c j hc => pj_u_n hc
  exact InvC_ex h rfl (Or.inl ⟨rfl, fun c j hc => f c j (by omega)⟩) (fun c j h1 h2 => f c j (by omega)) (Or.inl ⟨rfl, fun c j h1 h2 => f c j (by omega), f _ _ (by decide)⟩) (Or.inl ⟨rfl, f _ _ (by decide), fun j => f _ _ (by decide)⟩) (Or.inl ⟨rfl, fun c j hc => f c j (by omega)⟩) (Or.inl ⟨rfl, fun j => f _ _ (by decide)⟩) (Or.inr pj_u_e) (Or.inl ⟨rfl, f _ _ (by decide), f _ _ (by decide)⟩) (Or.inl ⟨rfl, f _ _ (by decide), fun j => f _ _ (by decide)⟩) (Or.inl ⟨rfl, fun c j hc => f c j (by omega)⟩) (fun j => f _ _ (by decide))
theorem InvM_sd {s : Nat} (h : InvM A I J) : InvM (A.sS s) I (pj_u J 276 54 (lN s)) :=
  InvM_ex h rfl (Or.inl ⟨rfl, rfl, fun j => rfl⟩) ⟨rfl, fun c j h1 h2 => rfl, fun c j h1 h2 => pj_u_n (by omega)⟩ h.2.2.1 h.2.2.2.1 (hM_eq (A := A) rfl rfl rfl h.2.2.2.2.1) (Or.inl ⟨rfl, fun j => rfl⟩) (Or.inr pj_u_e) (Or.inl ⟨rfl, rfl, rfl⟩) (Or.inl ⟨rfl, rfl, fun c j h1 h2 => rfl⟩) (Or.inl ⟨rfl, rfl, fun j => rfl⟩)
end PSe
