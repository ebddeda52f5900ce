/-! the reference's goesOn -/
theorem flu_l {r : Nat} : ∀ {os : List Nat} {C : List Tk} {o : Nat}, (flu r os C o).1.length + (flu r os C o).2.1.length = os.length + C.length ∧ (flu r os C o).1.length ≤ os.length
  | [], C, o => ⟨rfl, Nat.le_refl _⟩
  | x :: l, C, o => by
    unfold flu
    split
    · exact ⟨rfl, Nat.le_refl _⟩
    · have t := flu_l (r := r) (os := l) (C := C ++ [tkO x]) (o := if x = 43 then o - 1 else o)
      rw [List.length_append] at t
      simp only [List.length_cons, List.length_nil] at t ⊢
      omega
theorem flu_n {r : Nat} : ∀ {os : List Nat} {C : List Tk} {o : Nat}, nts os ≤ o → nts (flu r os C o).1 + o = nts os + (flu r os C o).2.2 ∧ (flu r os C o).2.2 ≤ o
  | [], C, o, _ => ⟨rfl, Nat.le_refl _⟩
  | x :: l, C, o, h => by
    unfold flu
    split
    · exact ⟨rfl, Nat.le_refl _⟩
    · have e : nts (x :: l) = nts l + (if x = 43 then 1 else 0) := rfl
      rw [e] at h ⊢
      by_cases c : x = 43
      · simp only [if_pos c] at h ⊢
        have t := flu_n (r := r) (os := l) (C := C ++ [tkO x]) (o := o - 1) (by omega)
        omega
      · simp only [if_neg c] at h ⊢
        have t := flu_n (r := r) (os := l) (C := C ++ [tkO x]) (o := o) (by omega)
        omega
theorem flu_1 : ∀ {os : List Nat} {C : List Tk} {o : Nat}, (flu 1 os C o).1 = []
  | [], C, o => rfl
  | x :: l, C, o => by
    unfold flu
    rw [if_neg (by have := rnk_1 x; omega)]
    exact flu_1
section PMv
variable {n h : Nat} {Q : pj_K} {I : Nat → Nat → Int32} {J : Nat → Nat → Int64} {m : Nat} {f : Nat → Nat} {B pg : Nat} {fs : List Fr} {C : List Tk} {o p : Nat} {b : Bool}
theorem RX_pop {F : Fr} {kd ph : Nat} {bg : Bool} {pa : Nat} {o' : Nat} (h : RX B pg ((kd, ph, bg, pa, []) :: F :: fs) C o b I) : RX B pg (F :: fs) C o' b (pj_u (pj_u I 276 36 (nI (fs.length + 1))) 276 37 (nI o')) := by
  obtain ⟨a1, a2, a3, a4, a5, a6, a7, a8, a9, -, a10⟩ := h
  exact ⟨(pj_u_j (by decide)).trans ((pj_u_j (by decide)).trans a1), a2, (pj_u_j (by decide)).trans ((pj_u_j (by decide)).trans a3), (pj_u_j (by decide)).trans ((pj_u_j (by decide)).trans a4), MC_fr (fun j _ _ => ⟨by rw [pj_u_n (by decide), pj_u_n (by decide)], by rw [pj_u_n (by decide), pj_u_n (by decide)]⟩) a5, (pj_u_j (by decide)).trans pj_u_e, pj_u_e, ((pj_u_j (by decide)).trans (pj_u_j (by decide))).trans (a8.trans (congrArg nI (Nat.zero_add _))), (pj_u_j (by decide)).trans ((pj_u_j (by decide)).trans a9), FrM_fr (fun c j h1 h2 _ => by rw [pj_u_n (by omega), pj_u_n (by omega)]) (fun j _ => by rw [pj_u_n (by decide), pj_u_n (by decide)]) a10⟩
theorem m193 (hh : 4 ≤ h) {kd ph : Nat} {bg : Bool} {pa : Nat} {os : List Nat} (hX : RX B pg ((kd, ph, bg, pa, os) :: fs) C o true I) (hs : MS m f (.ok p) I J) (hR : Rk ((kd, ph, bg, pa, os) :: fs, C, o, p, true)) (hb1 : os.length + tot fs ≤ 490) (hb2 : fs.length ≤ 17)
    (hst : stG (sgn m f) (fun c => Rk c → ∀ I' J', pj_fr (gM B) I I' → pj_fr jM J J' → RX B pg c.1 c.2.1 c.2.2.1 c.2.2.2.2 I' → MS m f (.ok c.2.2.2.1) I' J' → Q (some (.int 1)) (zc n, I', J')) (fun e => ∀ v I' J', pj_fr (gM B) I I' → pj_fr jM J J' → MS m f (.error e) I' J' → Q (some (.int v)) (zc n, I', J')) (fun C' p' => ∀ I' J', pj_fr (gM B) I I' → pj_fr jM J J' → I' 276 28 = nI C'.length → MC (1600 * B) C' I' → MS m f (.ok p') I' J' → Q (some (.int 0)) (zc n, I', J')) kd ph bg pa os fs C o p) : pj_D h 193 [.ref 276] (zc n, I, J) Q := by
  obtain ⟨hR1, hR2, hR3⟩ := hR
  have t0 : tot ((kd, ph, bg, pa, os) :: fs) = os.length + tot fs := rfl
  have n0 : ntt ((kd, ph, bg, pa, os) :: fs) = nts os + ntt fs := rfl
  simp only [List.length_cons] at hR2
  rw [t0] at hR1
  rw [n0] at hR2
  have hm := hs.1.1
  have hpm := hs.2.2.2.1
  simp only at hR1 hR2 hR3
  refine pj_ent (g := 3) hh (t := mt_193) rfl rfl (v193_0 (pj_D_le 3) I J (m168 (by decide) hs (fun I1 f1 s1 => kV_i ?_)))
  unfold stG at hst
  by_cases c4 : (sgn m f p).k = 4
  · rw [if_pos c4] at hst
    have u : lxs (sgn m f) (.ok p) = .error (1, (sgn m f p).pl) := if_pos c4
    rw [u] at s1
    exact br_f (ME_n s1.2).1 (hst 0 I1 J (gM_w f1) pj_fr_rf s1)
  rw [if_neg c4] at hst
  have u : lxs (sgn m f) (.ok p) = .ok p := if_neg c4
  rw [u] at s1
  have X1 := RX_x f1 hX
  have g1 : pj_fr (gM B) I I1 := gM_w f1
  have e36 : I1 276 36 - 1 = nI fs.length := by rw [X1.2.2.2.2.2.1]; exact nI_pred _
  have hkd : kd ≤ 6 := X1.2.2.2.2.2.2.2.2.2.1.2.2.2.2.2.2.2.1
  have hph : ph ≤ 2 := X1.2.2.2.2.2.2.2.2.2.1.2.2.2.2.2.2.2.2.1
  have v20 : vp_in (nI fs.length) 20 := vp_in_nI (by omega) (by decide)
  have h292 : I1 292 fs.length = nI kd := X1.2.2.2.2.2.2.2.2.2.1.1
  have h293 : I1 293 fs.length = nI ph := X1.2.2.2.2.2.2.2.2.2.1.2.1
  have ehp : (I1 293 fs.length = 0) ↔ ph = 0 := by rw [h293]; exact nI_eq (b := 0) (by omega) (by decide)
  -- joins
  have jo : ∀ (r : Nat) (K : (Nat → Nat → Int32) → (Nat → Nat → Int64) → Prop), r ≤ 10 → (∀ I2, pj_fr (gM B) I I2 → RX B pg ((kd, ph, bg, pa, (flu r os C o).1) :: fs) (flu r os C o).2.1 (flu r os C o).2.2 true I2 → MS m f (.ok p) I2 J → K I2 J) → pj_D 3 194 [.ref 276, .int (nI r)] (zc n, I1, J) (kV n K) := fun r K hr hK =>
    m194 (by decide) hr os C o I1 X1 s1 (by omega) hb1 (by omega) (by omega) (fun I2 f2 X2 s2 => kV_i (hK I2 (pj_fr_tr g1 f2) X2 s2))
  have fl := fun r => flu_l (r := r) (os := os) (C := C) (o := o)
  have fn := fun r => flu_n (r := r) (os := os) (C := C) (o := o) (by omega)
  -- an operator held back
  have hold : ∀ (r x ph' : Nat) (bg' : Bool) (I2 : Nat → Nat → Int32), x < 100 → x ≠ 43 → (sgn m f p).k ≠ 0 → pj_fr (gM B) I I2 → RX B pg ((kd, ph', bg', pa, x :: (flu r os C o).1) :: fs) (flu r os C o).2.1 (flu r os C o).2.2 true I2 → MS m f (.ok p) I2 J → (Rk ((kd, ph', bg', pa, x :: (flu r os C o).1) :: fs, (flu r os C o).2.1, (flu r os C o).2.2, (sgn m f p).nx, false) → ∀ I' J', pj_fr (gM B) I I' → pj_fr jM J J' → RX B pg ((kd, ph', bg', pa, x :: (flu r os C o).1) :: fs) (flu r os C o).2.1 (flu r os C o).2.2 false I' → MS m f (.ok (sgn m f p).nx) I' J' → Q (some (.int 1)) (zc n, I', J')) → pj_D 3 164 [.ref 276] (zc n, I2, J) (kV n fun I8 J8 => Q (some (.int 1)) (zc n, (pj_u I8 276 40 0), J8)) := by
    intro r x ph' bg' I2 hx hx43 k0 g2 X2 s2 hq
    have nx := sgn_nx k0
    have l := fl r
    have nn := fn r
    refine m164s (by decide) s2 k0 (fun I3 J3 f3 j3 s3 => kV_i (hq ⟨?_, ?_, ?_⟩ _ J3 (pj_fr_u (pj_fr_tr g2 (gM_w f3)) rfl) j3 (RX_b (b' := false) (RX_x f3 X2)) (MS_u (by decide) (fun _ => by decide) s3)))
    · show (flu r os C o).2.1.length + ((flu r os C o).1.length + 1 + tot fs) ≤ (sgn m f p).nx
      omega
    · show nts (flu r os C o).1 + (if x = 43 then 1 else 0) + ntt fs + (fs.length + 1) = (flu r os C o).2.2 + 1
      rw [if_neg hx43]
      omega
    · show (flu r os C o).2.2 ≤ 7
      omega
  -- the ends
  have p613 : ∀ (fs' : List Fr) (C' : List Tk) (o' : Nat) (I2 : Nat → Nat → Int32), (sgn m f p).k ≠ 0 → pj_fr (gM B) I I2 → RX B pg fs' C' o' true I2 → MS m f (.ok p) I2 J → Rk (fs', C', o', (sgn m f p).nx, true) → (∀ I' J', pj_fr (gM B) I I' → pj_fr jM J J' → RX B pg fs' C' o' true I' → MS m f (.ok (sgn m f p).nx) I' J' → Q (some (.int 1)) (zc n, I', J')) → pj_R (pj_D 3) ta mc_193 true Q 613 [some (.ref 276), none, none, none, none] [] (zc n) I2 J 0 0 := fun fs' C' o' I2 k0 g2 X2 s2 _ hq =>
    v193_613 (pj_D_le 3) I2 J (m164s (by decide) s2 k0 (fun I3 J3 f3 j3 s3 => kV_i (hq I3 J3 (pj_fr_tr g2 (gM_w f3)) j3 (RX_x f3 X2) s3)))
  have erQ : ∀ (e : Nat × Nat), (∀ v I' J', pj_fr (gM B) I I' → pj_fr jM J J' → MS m f (.error e) I' J' → Q (some (.int v)) (zc n, I', J')) → ∀ I2, pj_fr (gM B) I I2 → MS m f (.error e) I2 J → pj_R (pj_D 3) ta mc_193 true Q 422 [some (.ref 276), some (.int (nI fs.length)), some (.int (nI kd)), none, none] [] (zc n) I2 J 0 0 ∧ pj_R (pj_D 3) ta mc_193 true Q 470 [some (.ref 276), some (.int (nI fs.length)), some (.int (nI kd)), none, none] [] (zc n) I2 J 0 0 ∧ pj_R (pj_D 3) ta mc_193 true Q 546 [some (.ref 276), some (.int (nI fs.length)), some (.int (nI kd)), none, none] [] (zc n) I2 J 0 0 ∧ pj_R (pj_D 3) ta mc_193 true Q 327 [some (.ref 276), some (.int (nI fs.length)), none, none, none] [] (zc n) I2 J 0 0 := by
    intro e hq I2 g2 s2
    have ne := ME_n s2.2
    have q0 := hq 0 I2 J g2 pj_fr_rf s2
    have a470 : pj_R (pj_D 3) ta mc_193 true Q 470 [some (.ref 276), some (.int (nI fs.length)), some (.int (nI kd)), none, none] [] (zc n) I2 J 0 0 := v193_470 (pj_D_le 3) I2 J _ _ (br_f ne.1 q0)
    have a546 : pj_R (pj_D 3) ta mc_193 true Q 546 [some (.ref 276), some (.int (nI fs.length)), some (.int (nI kd)), none, none] [] (zc n) I2 J 0 0 := v193_546 (pj_D_le 3) I2 J _ _ (br_f ne.1 q0)
    have a452 : pj_R (pj_D 3) ta mc_193 true Q 452 [some (.ref 276), some (.int (nI fs.length)), some (.int (nI kd)), none, none] [] (zc n) I2 J 0 0 := v193_452 (pj_D_le 3) I2 J _ _ (m190j (by decide) (fun v => kI_i ⟨fun _ => a470, fun _ => m169e (by decide) s2 (kV_i a470)⟩))
    refine ⟨v193_422 (pj_D_le 3) I2 J _ _ ⟨fun _ => ⟨fun _ => a452, fun _ => ⟨fun _ => ⟨fun _ => m190j (by decide) (fun v => kI_i ⟨fun _ => a546, fun _ => m169e (by decide) s2 (kV_i a546)⟩), fun _ => m190j (by decide) (fun v => kI_i ⟨fun _ => a546, fun _ => m169e (by decide) s2 (kV_i a546)⟩)⟩, fun _ => a452⟩⟩, fun _ => ⟨fun _ => v193_439 (pj_D_le 3) I2 J q0, fun z => absurd z ne.2⟩⟩, a470, a546, v193_327 (pj_D_le 3) I2 J _ (br_f ne.1 q0)⟩
  have p422 : stE (sgn m f) (fun c => Rk c → ∀ I' J', pj_fr (gM B) I I' → pj_fr jM J J' → RX B pg c.1 c.2.1 c.2.2.1 c.2.2.2.2 I' → MS m f (.ok c.2.2.2.1) I' J' → Q (some (.int 1)) (zc n, I', J')) (fun e => ∀ v I' J', pj_fr (gM B) I I' → pj_fr jM J J' → MS m f (.error e) I' J' → Q (some (.int v)) (zc n, I', J')) (fun C' p' => ∀ I' J', pj_fr (gM B) I I' → pj_fr jM J J' → I' 276 28 = nI C'.length → MC (1600 * B) C' I' → MS m f (.ok p') I' J' → Q (some (.int 0)) (zc n, I', J')) kd ph bg pa fs (flu 1 os C o).2.1 (flu 1 os C o).1 (flu 1 os C o).2.2 p → pj_R (pj_D 3) ta mc_193 true Q 422 [some (.ref 276), some (.int (nI fs.length)), some (.int (nI kd)), none, none] [] (zc n) I1 J 0 0 := by
    intro hE
    unfold stE at hE
    have l := fl 1
    have nn := fn 1
    have f1e := flu_1 (os := os) (C := C) (o := o)
    have e2 : (2 ≤ nI kd) ↔ 2 ≤ kd := nI_leI (a := 2) (by decide) (by omega)
    have e3 : (nI kd = 3) ↔ kd = 3 := nI_eq (b := 3) (by omega) (by decide)
    have e4 : (nI kd = 4) ↔ kd = 4 := nI_eq (b := 4) (by omega) (by decide)
    have e5 : (nI kd = 5) ↔ kd = 5 := nI_eq (b := 5) (by omega) (by decide)
    have e6 : (nI kd = 6) ↔ kd = 6 := nI_eq (b := 6) (by omega) (by decide)
    refine v193_422 (pj_D_le 3) I1 J _ _ ?_
    rw [e2, e3, e5, e6]
    have no : ∀ (hq : ∀ v I' J', pj_fr (gM B) I I' → pj_fr jM J J' → MS m f (.error (1, (sgn m f p).st)) I' J' → Q (some (.int v)) (zc n, I', J')) (K : (Nat → Nat → Int32) → (Nat → Nat → Int64) → Prop), (∀ I2, pj_fr (gM B) I I2 → MS m f (.error (1, (sgn m f p).st)) I2 J → K I2 J) → pj_D 3 169 [.ref 276, .int 1, .int (I1 276 4)] (zc n, I1, J) (kV n K) := fun hq K hK => by
      rw [s1.2.2.1.2.1]
      exact m169 (a := 1) (by decide) (by decide) (by decide) s1 (fun I2 f2 s2 => kV_i (hK I2 (pj_fr_tr g1 (gM_w f2)) s2))
    refine ⟨fun c2 => ?_, fun c2 => ?_⟩
    rotate_left
    · rw [if_pos (by omega)] at hE
      refine ⟨fun z => absurd s1.2.1 z, fun _ => jo 1 _ (by decide) (fun I2 g2 X2 s2 => v193_439 (pj_D_le 3) I2 J (hE I2 J g2 pj_fr_rf X2.2.2.2.1 X2.2.2.2.2.1 s2))⟩
    · rw [if_neg (by omega)] at hE
      have p452 : (kd = 3 ∨ kd = 6) → pj_R (pj_D 3) ta mc_193 true Q 452 [some (.ref 276), some (.int (nI fs.length)), some (.int (nI kd)), none, none] [] (zc n) I1 J 0 0 := fun hk => by
        rw [if_pos hk] at hE
        refine v193_452 (pj_D_le 3) I1 J _ _ (m190 (c := 44) (by decide) (by decide) s1 (kI_i ?_))
        cases ei : isS (sgn m f p) 44 with
        | false =>
          rw [if_neg (by rw [ei]; decide)] at hE
          exact ⟨fun z => absurd rfl z, fun _ => no hE _ (fun I2 g2 s2 => (erQ _ hE I2 g2 s2).2.1)⟩
        | true =>
          rw [if_pos ei] at hE
          have k3 := (isS_k ei).1
          have nx := sgn_nx (n := m) (f := f) (p := p) (by omega)
          refine ⟨fun _ => v193_470 (pj_D_le 3) I1 J _ _ (br_t (by rw [s1.2.1]; decide) (jo 1 _ (by decide) (fun I2 g2 X2 s2 => ?_))), fun z => absurd z (by decide)⟩
          rw [e3, nI_clamp (by omega)]
          rw [f1e] at X2 hE l nn
          have fin : ∀ kd', kd' ≤ 6 → (kd' = 3 ∨ kd' = 4) → Rk ((kd', 0, bg, pa, []) :: fs, (flu 1 os C o).2.1, (flu 1 os C o).2.2, (sgn m f p).nx, false) ∧ ((∀ I' J', pj_fr (gM B) I I' → pj_fr jM J J' → RX B pg ((kd', 0, bg, pa, []) :: fs) (flu 1 os C o).2.1 (flu 1 os C o).2.2 false I' → MS m f (.ok (sgn m f p).nx) I' J' → Q (some (.int 1)) (zc n, I', J')) → pj_D 3 164 [.ref 276] (zc n, (pj_u (pj_u I2 292 fs.length (nI kd')) 293 fs.length 0), J) (kV n fun I2 J2 => Q (some (.int 1)) (zc n, (pj_u I2 276 40 0), J2))) := fun kd' h6 h34 => by
            refine ⟨⟨?_, ?_, ?_⟩, fun hq => ?_⟩
            · show (flu 1 os C o).2.1.length + (0 + tot fs) ≤ (sgn m f p).nx
              simp only [List.length_nil] at l
              omega
            · show 0 + ntt fs + (fs.length + 1) = (flu 1 os C o).2.2 + 1
              have : nts [] = 0 := rfl
              omega
            · show (flu 1 os C o).2.2 ≤ 7
              omega
            · have X3 := RX_p (ph' := 0) (by decide) (RX_k (kd' := kd') h6 (fun _ => by omega) (by omega) X2)
              refine m164s (by decide) (MS_u (by decide) (fun z => by cases z) (MS_u (by decide) (fun z => by cases z) s2)) (by omega) (fun I3 J3 f3 j3 s3 => kV_i (hq _ J3 (pj_fr_u (pj_fr_tr (pj_fr_u (pj_fr_u g2 (gM_9 (by decide) (by decide))) (gM_9 (by decide) (by decide))) (gM_w f3)) rfl) j3 (RX_b (b' := false) (RX_x f3 X3)) (MS_u (by decide) (fun _ => by decide) s3)))
          refine ⟨fun z => ⟨v20, v20, ?_⟩, fun z => ⟨v20, v20, ?_⟩⟩
          · rw [if_neg z] at hE
            have t := fin 3 (by decide) (Or.inl rfl)
            exact t.2 (hE t.1)
          · rw [if_pos z] at hE
            have t := fin 4 (by decide) (Or.inr rfl)
            exact t.2 (hE t.1)
      refine ⟨fun c3 => p452 (Or.inl c3), fun c3 => ⟨fun c6 => ?_, fun c6 => p452 (Or.inr c6)⟩⟩
      rw [if_neg (by omega)] at hE
      -- closing
      have p546 : isS (sgn m f p) (if kd = 5 then 93 else 41) = true → pj_R (pj_D 3) ta mc_193 true Q 546 [some (.ref 276), some (.int (nI fs.length)), some (.int (nI kd)), none, none] [] (zc n) I1 J 0 0 := fun ei => by
        rw [if_pos ei] at hE
        have k3 := (isS_k ei).1
        have nx := sgn_nx (n := m) (f := f) (p := p) (by omega)
        cases fs with
        | nil => exact absurd hE id
        | cons F r =>
          have hE : Rk ((F.1, (if kd = 5 then 2 else F.2.1), F.2.2) :: r, (if kd = 4 then (flu 1 os C o).2.1 ++ [tkO pa] else (flu 1 os C o).2.1), (flu 1 os C o).2.2 - 1, (sgn m f p).nx, true) → ∀ I' J', pj_fr (gM B) I I' → pj_fr jM J J' → RX B pg ((F.1, (if kd = 5 then 2 else F.2.1), F.2.2) :: r) (if kd = 4 then (flu 1 os C o).2.1 ++ [tkO pa] else (flu 1 os C o).2.1) ((flu 1 os C o).2.2 - 1) true I' → MS m f (.ok (sgn m f p).nx) I' J' → Q (some (.int 1)) (zc n, I', J') := hE
          have tF : tot (F :: r) = F.2.2.2.2.length + tot r := rfl
          have nF : ntt (F :: r) = nts F.2.2.2.2 + ntt r := rfl
          simp only [List.length_cons] at hR2 hb2 v20
          refine v193_546 (pj_D_le 3) I1 J _ _ (br_t (by rw [s1.2.1]; decide) (jo 1 _ (by decide) (fun I2 g2 X2 s2 => ?_)))
          rw [e4]
          have h36 : I2 276 36 = nI (r.length + 1 + 1) := X2.2.2.2.2.2.1
          have h37 : I2 276 37 = nI (flu 1 os C o).2.2 := X2.2.2.2.2.2.2.1
          rw [f1e] at X2 l nn
          have n1 : nts [] = 0 := rfl
          simp only [List.length_nil] at l
          have o1 : 1 ≤ (flu 1 os C o).2.2 := by omega
          have d36 : I2 276 36 - 1 = nI (r.length + 1) := by rw [h36]; exact nI_pred _
          have d37 : I2 276 37 - 1 = nI ((flu 1 os C o).2.2 - 1) := by
            rw [h37]
            obtain ⟨o', ho'⟩ : ∃ k, (flu 1 os C o).2.2 = k + 1 := ⟨(flu 1 os C o).2.2 - 1, by omega⟩
            rw [ho']
            exact nI_pred _
          rw [d36, d37]
          have X3 := RX_pop (o' := (flu 1 os C o).2.2 - 1) X2
          have s3 : MS m f (.ok p) (pj_u (pj_u I2 276 36 (nI (r.length + 1))) 276 37 (nI ((flu 1 os C o).2.2 - 1))) J := MS_u (by decide) (fun _ => by decide) (MS_u (by decide) (fun _ => by decide) s2)
          have g3 : pj_fr (gM B) I (pj_u (pj_u I2 276 36 (nI (r.length + 1))) 276 37 (nI ((flu 1 os C o).2.2 - 1))) := pj_fr_u (pj_fr_u g2 rfl) rfl
          have p596 : ∀ (C' : List Tk) (I3 : Nat → Nat → Int32), C' = (if kd = 4 then (flu 1 os C o).2.1 ++ [tkO pa] else (flu 1 os C o).2.1) → C'.length ≤ (flu 1 os C o).2.1.length + 1 → pj_fr (gM B) I I3 → RX B pg (F :: r) C' ((flu 1 os C o).2.2 - 1) true I3 → MS m f (.ok p) I3 J → pj_R (pj_D 3) ta mc_193 true Q 596 [some (.ref 276), none, some (.int (nI kd)), none, none] [] (zc n) I3 J 0 0 := by
            intro C' I3 eC lC g4 X4 s4
            rw [← eC] at hE
            refine v193_596 (pj_D_le 3) I3 J _ ?_
            rw [e5]
            have rk : Rk ((F.1, (if kd = 5 then 2 else F.2.1), F.2.2) :: r, C', (flu 1 os C o).2.2 - 1, (sgn m f p).nx, true) := by
              refine ⟨?_, ?_, ?_⟩
              · show C'.length + (F.2.2.2.2.length + tot r) ≤ (sgn m f p).nx
                omega
              · show nts F.2.2.2.2 + ntt r + (r.length + 1) = (flu 1 os C o).2.2 - 1 + 1
                omega
              · show (flu 1 os C o).2.2 - 1 ≤ 7
                omega
            refine ⟨fun c5 => ?_, fun c5 => ?_⟩
            · rw [if_neg c5] at hE rk
              exact p613 _ _ _ I3 (by omega) g4 X4 s4 rk (hE rk)
            · rw [if_pos c5] at hE rk
              have h36' : I3 276 36 - 1 = nI r.length := by rw [X4.2.2.2.2.2.1]; exact nI_pred _
              rw [h36', nI_clamp (by omega)]
              refine ⟨vp_in_nI (by omega) (by decide), ?_⟩
              have X5 := RX_p (kd := F.1) (ph := F.2.1) (bg := F.2.2.1) (pa := F.2.2.2.1) (os := F.2.2.2.2) (ph' := 2) (by decide) X4
              exact p613 _ _ _ _ (by omega) (pj_fr_u g4 (gM_9 (by decide) (by decide))) X5 (MS_u (by decide) (fun z => by cases z) s4) rk (hE rk)
          refine ⟨fun k4 => p596 _ _ (if_neg k4).symm (by omega) g3 X3 s3, fun k4 => ?_⟩
          have hpa : I2 295 (r.length + 1) = nI pa := X2.2.2.2.2.2.2.2.2.2.1.2.2.2.1 (Or.inr (Or.inl k4))
          have w : nI pa = nI (mtk (tkO pa)) := by rw [(mtk_o pa).1]
          have v21 : vp_in (nI (r.length + 1)) 20 := vp_in_nI (by omega) (by decide)
          simp only [List.length_cons]
          rw [nI_clamp (by omega), hpa, w]
          refine ⟨v21, m192 (t := tkO pa) (v := 0) (by decide) X3 s3 (by omega) (fun z => absurd z (mtk_o pa).2) (fun I4 f4 X4 s4 _ _ _ => kV_i (p596 _ I4 (if_pos k4).symm (by rw [List.length_append]; exact Nat.le_refl _) (pj_fr_tr g3 f4) X4 s4))⟩
      have clo : ∀ c, c < 2 ^ 31 → c = (if kd = 5 then 93 else 41) → pj_D 3 190 [.ref 276, .int (nI c)] (zc n, I1, J) (kI n fun v1 I2 J2 => ((¬ v1 = 0 → pj_R (pj_D 3) ta mc_193 true Q 546 [some (.ref 276), some (.int (nI fs.length)), some (.int (nI kd)), none, none] [] (zc n) I2 J2 0 0) ∧ (v1 = 0 → pj_D 3 169 [.ref 276, .int 1, .int (I2 276 4)] (zc n, I2, J2) (kV n fun I3 J3 => pj_R (pj_D 3) ta mc_193 true Q 546 [some (.ref 276), some (.int (nI fs.length)), some (.int (nI kd)), none, none] [] (zc n) I3 J3 0 0)))) := fun c hc ec => by
        refine m190 (by decide) hc s1 (kI_i ?_)
        cases ei : isS (sgn m f p) c with
        | true =>
          rw [ec] at ei
          exact ⟨fun _ => p546 ei, fun z => absurd z (by decide)⟩
        | false =>
          rw [ec] at ei
          rw [if_neg (by rw [ei]; decide)] at hE
          exact ⟨fun z => absurd rfl z, fun _ => no hE _ (fun I2 g2 s2 => (erQ _ hE I2 g2 s2).2.2.1)⟩
      exact ⟨fun c5 => clo 41 (by decide) (if_neg c5).symm, fun c5 => clo 93 (by decide) (if_pos c5).symm⟩
  -- tests
  have p400 : (if isT kd = true ∧ ph = 0 then (∀ v I' J', pj_fr (gM B) I I' → pj_fr jM J J' → MS m f (.error (1, (sgn m f p).st)) I' J' → Q (some (.int v)) (zc n, I', J')) else stE (sgn m f) (fun c => Rk c → ∀ I' J', pj_fr (gM B) I I' → pj_fr jM J J' → RX B pg c.1 c.2.1 c.2.2.1 c.2.2.2.2 I' → MS m f (.ok c.2.2.2.1) I' J' → Q (some (.int 1)) (zc n, I', J')) (fun e => ∀ v I' J', pj_fr (gM B) I I' → pj_fr jM J J' → MS m f (.error e) I' J' → Q (some (.int v)) (zc n, I', J')) (fun C' p' => ∀ I' J', pj_fr (gM B) I I' → pj_fr jM J J' → I' 276 28 = nI C'.length → MC (1600 * B) C' I' → MS m f (.ok p') I' J' → Q (some (.int 0)) (zc n, I', J')) kd ph bg pa fs (flu 1 os C o).2.1 (flu 1 os C o).1 (flu 1 os C o).2.2 p) → pj_R (pj_D 3) ta mc_193 true Q 400 [some (.ref 276), some (.int (nI fs.length)), some (.int (nI kd)), some (.int (bi (isT kd))), none] [] (zc n) I1 J 0 0 := by
    intro hE
    refine v193_400 (pj_D_le 3) I1 J _ _ _ ⟨fun z => ?_, fun z => ⟨v20, ?_⟩⟩
    · rw [if_neg (by rw [(bi_0 _).mp z]; exact fun w => absurd w.1 (by decide))] at hE
      exact p422 hE
    · rw [nI_clamp (by omega), ehp]
      refine ⟨fun c => ?_, fun c => ?_⟩
      · rw [if_neg (fun w => c w.2)] at hE
        exact p422 hE
      · rw [if_pos ⟨(bi_n _).mp z, c⟩] at hE
        rw [s1.2.2.1.2.1]
        exact m169 (a := 1) (by decide) (by decide) (by decide) s1 (fun I2 f2 s2 => kV_i (erQ _ hE I2 (pj_fr_tr g1 (gM_w f2)) s2).1)
  have p285 : (if isT kd = true ∧ own (sgn m f p) = some 17 then (if ph = 0 then (∀ v I' J', pj_fr (gM B) I I' → pj_fr jM J J' → MS m f (.error (1, (sgn m f p).st)) I' J' → Q (some (.int v)) (zc n, I', J')) else (Rk ((kd, 0, true, pa, 41 :: (flu 2 os C o).1) :: fs, (flu 2 os C o).2.1, (flu 2 os C o).2.2, (sgn m f p).nx, false) → ∀ I' J', pj_fr (gM B) I I' → pj_fr jM J J' → RX B pg ((kd, 0, true, pa, 41 :: (flu 2 os C o).1) :: fs) (flu 2 os C o).2.1 (flu 2 os C o).2.2 false I' → MS m f (.ok (sgn m f p).nx) I' J' → Q (some (.int 1)) (zc n, I', J'))) else if isT kd = true ∧ own (sgn m f p) = some 16 then (if ph = 0 then (∀ v I' J', pj_fr (gM B) I I' → pj_fr jM J J' → MS m f (.error (1, (sgn m f p).st)) I' J' → Q (some (.int v)) (zc n, I', J')) else (Rk ((kd, 0, true, pa, 42 :: (flu 1 os C o).1) :: fs, (flu 1 os C o).2.1, (flu 1 os C o).2.2, (sgn m f p).nx, false) → ∀ I' J', pj_fr (gM B) I I' → pj_fr jM J J' → RX B pg ((kd, 0, true, pa, 42 :: (flu 1 os C o).1) :: fs) (flu 1 os C o).2.1 (flu 1 os C o).2.2 false I' → MS m f (.ok (sgn m f p).nx) I' J' → Q (some (.int 1)) (zc n, I', J'))) else (if isT kd = true ∧ ph = 0 then (∀ v I' J', pj_fr (gM B) I I' → pj_fr jM J J' → MS m f (.error (1, (sgn m f p).st)) I' J' → Q (some (.int v)) (zc n, I', J')) else stE (sgn m f) (fun c => Rk c → ∀ I' J', pj_fr (gM B) I I' → pj_fr jM J J' → RX B pg c.1 c.2.1 c.2.2.1 c.2.2.2.2 I' → MS m f (.ok c.2.2.2.1) I' J' → Q (some (.int 1)) (zc n, I', J')) (fun e => ∀ v I' J', pj_fr (gM B) I I' → pj_fr jM J J' → MS m f (.error e) I' J' → Q (some (.int v)) (zc n, I', J')) (fun C' p' => ∀ I' J', pj_fr (gM B) I I' → pj_fr jM J J' → I' 276 28 = nI C'.length → MC (1600 * B) C' I' → MS m f (.ok p') I' J' → Q (some (.int 0)) (zc n, I', J')) kd ph bg pa fs (flu 1 os C o).2.1 (flu 1 os C o).1 (flu 1 os C o).2.2 p)) → pj_R (pj_D 3) ta mc_193 true Q 285 [some (.ref 276), some (.int (nI fs.length)), some (.int (nI kd)), some (.int (bi (isT kd))), none] [] (zc n) I1 J 0 0 := by
    intro hE
    refine v193_285 (pj_D_le 3) I1 J _ _ _ ⟨fun z => ?_, fun z => m170 (by decide) s1 c4 (i := 17) (by decide) nm17 (kI_i ?_)⟩
    · have z := (bi_0 _).mp z
      rw [if_neg (by rw [z]; exact fun w => absurd w.1 (by decide)), if_neg (by rw [z]; exact fun w => absurd w.1 (by decide))] at hE
      exact p400 hE
    · have z := (bi_n _).mp z
      -- and, or
      have p309 : ∀ (x r : Nat), (own (sgn m f p) = some 17 ∧ x = 41 ∧ r = 2 ∨ own (sgn m f p) = some 16 ∧ x = 42 ∧ r = 1) → (if ph = 0 then (∀ v I' J', pj_fr (gM B) I I' → pj_fr jM J J' → MS m f (.error (1, (sgn m f p).st)) I' J' → Q (some (.int v)) (zc n, I', J')) else (Rk ((kd, 0, true, pa, x :: (flu r os C o).1) :: fs, (flu r os C o).2.1, (flu r os C o).2.2, (sgn m f p).nx, false) → ∀ I' J', pj_fr (gM B) I I' → pj_fr jM J J' → RX B pg ((kd, 0, true, pa, x :: (flu r os C o).1) :: fs) (flu r os C o).2.1 (flu r os C o).2.2 false I' → MS m f (.ok (sgn m f p).nx) I' J' → Q (some (.int 1)) (zc n, I', J'))) → pj_R (pj_D 3) ta mc_193 true Q 309 [some (.ref 276), some (.int (nI fs.length)), none, none, none] [] (zc n) I1 J 0 0 := by
        intro x r hx hq
        have k1 : (sgn m f p).k = 1 := by rcases hx with w | w <;> exact own_k w.1
        refine v193_309 (pj_D_le 3) I1 J _ ⟨v20, ?_⟩
        rw [nI_clamp (by omega), ehp]
        refine ⟨fun c => ?_, fun c => ?_⟩
        · rw [if_neg c] at hq
          have go : ∀ I2, pj_fr (gM B) I I2 → RX B pg ((kd, ph, bg, pa, (flu r os C o).1) :: fs) (flu r os C o).2.1 (flu r os C o).2.2 true I2 → MS m f (.ok p) I2 J → pj_D 3 189 [.ref 276, .int (nI x)] (zc n, I2, J) (kV n fun I3 J3 => (vp_in (nI fs.length) 20 ∧ (vp_in (nI fs.length) 20 ∧ pj_D 3 164 [.ref 276] (zc n, (pj_u (pj_u I3 293 (nI fs.length).toNatClampNeg 0) 294 (nI fs.length).toNatClampNeg (1 &&& 1)), J3) (kV n fun I4 J4 => Q (some (.int 1)) (zc n, (pj_u I4 276 40 0), J4))))) := fun I2 g2 X2 s2 => by
            have l := fl r
            refine m189 (x := x) (by decide) X2 s2 (by omega) (by omega) (fun I3 f3 X3 s3 => kV_i ⟨v20, v20, ?_⟩)
            rw [nI_clamp (by omega)]
            have X4 := RX_g (bg' := true) (RX_p (ph' := 0) (by decide) X3)
            exact hold r x 0 true _ (by omega) (by omega) (by omega) (pj_fr_u (pj_fr_u (pj_fr_tr g2 f3) (gM_9 (by decide) (by decide))) (gM_9 (by decide) (by decide))) X4 (MS_u (by decide) (fun z => by cases z) (MS_u (by decide) (fun z => by cases z) s3)) hq
          refine v193_327 (pj_D_le 3) I1 J _ (br_t (by rw [s1.2.1]; decide) (m170 (by decide) s1 c4 (i := 17) (by decide) nm17 (kI_i ?_)))
          rcases hx with ⟨w, rfl, rfl⟩ | ⟨w, rfl, rfl⟩
          · rw [decide_eq_true w]
            exact ⟨fun y => absurd y (by decide), fun _ => jo 2 _ (by decide) (fun I2 g2 X2 s2 => ⟨fun y => absurd y (by decide), fun _ => go I2 g2 X2 s2⟩)⟩
          · rw [decide_eq_false (by rw [w]; decide)]
            exact ⟨fun _ => jo 1 _ (by decide) (fun I2 g2 X2 s2 => ⟨fun _ => go I2 g2 X2 s2, fun y => absurd rfl y⟩), fun y => absurd rfl y⟩
        · rw [if_pos c] at hq
          rw [s1.2.2.1.2.1]
          exact m169 (a := 1) (by decide) (by decide) (by decide) s1 (fun I2 f2 s2 => kV_i (erQ _ hq I2 (pj_fr_tr g1 (gM_w f2)) s2).2.2.2)
      rw [dN.2, dN.1]
      refine ⟨fun w => ?_, fun w17 => m170 (by decide) s1 c4 (i := 16) (by decide) nm16 (kI_i ?_)⟩
      · rw [if_pos ⟨z, w⟩] at hE
        exact p309 41 2 (Or.inl ⟨w, rfl, rfl⟩) hE
      · rw [if_neg (fun y => w17 y.2)] at hE
        rw [dN.2, dN.1]
        refine ⟨fun w16 => ?_, fun w => ?_⟩
        · rw [if_neg (fun y => w16 y.2)] at hE
          exact p400 hE
        · rw [if_pos ⟨z, w⟩] at hE
          exact p309 42 1 (Or.inr ⟨w, rfl, rfl⟩) hE
  -- comparisons
  have p188 : (¬ (ph < 2 ∧ (opS (sgn m f p)).isSome = true)) → (¬ (ph < 2 ∧ (opP (sgn m f p)).isSome = true)) → pj_R (pj_D 3) ta mc_193 true Q 188 [some (.ref 276), some (.int (nI fs.length)), some (.int (nI kd)), some (.int (bi (isT kd))), none] [] (zc n) I1 J 0 0 := by
    intro nS nP
    rw [if_neg nS, if_neg nP] at hst
    refine v193_188 (pj_D_le 3) I1 J _ _ _ ⟨fun z => ?_, fun z => ⟨v20, ?_⟩⟩
    · rw [if_neg (by rw [(bi_0 _).mp z]; exact fun w => absurd w.1 (by decide))] at hst
      exact p285 hst
    · rw [nI_clamp (by omega), ehp]
      refine ⟨fun c => ?_, fun c => ?_⟩
      · rw [if_neg (fun w => c w.2.1)] at hst
        exact p285 hst
      · have p228 : ∀ x, opC (sgn m f p) = some x → pj_R (pj_D 3) ta mc_193 true Q 228 [some (.ref 276), some (.int (nI fs.length)), none, none, none] [] (zc n) I1 J 0 0 := fun x ex => by
          rw [if_pos ⟨(bi_n _).mp z, c, by rw [ex]; rfl⟩, ex] at hst
          obtain ⟨x1, x2, x3, x4⟩ := opC_r ex
          have hx := (opC_o ex).2.2.1
          have go : ∀ I2, pj_fr (gM B) I I2 → RX B pg ((kd, ph, bg, pa, (flu 5 os C o).1) :: fs) (flu 5 os C o).2.1 (flu 5 os C o).2.2 true I2 → MS m f (.ok p) I2 J → pj_D 3 189 [.ref 276, .int (nI x)] (zc n, I2, J) (kV n fun I3 J3 => (vp_in (nI fs.length) 20 ∧ pj_D 3 164 [.ref 276] (zc n, (pj_u I3 293 (nI fs.length).toNatClampNeg 1), J3) (kV n fun I4 J4 => Q (some (.int 1)) (zc n, (pj_u I4 276 40 0), J4)))) := fun I2 g2 X2 s2 => by
            have l := fl 5
            refine m189 (x := x) (by decide) X2 s2 (by omega) (by omega) (fun I3 f3 X3 s3 => kV_i ⟨v20, ?_⟩)
            rw [nI_clamp (by omega)]
            exact hold 5 x 1 bg _ (by omega) x2 (by omega) (pj_fr_u (pj_fr_tr g2 f3) (gM_9 (by decide) (by decide))) (RX_p (ph' := 1) (by decide) X3) (MS_u (by decide) (fun z => by cases z) s3) hst
          refine v193_228 (pj_D_le 3) I1 J _ (jo 5 _ (by decide) (fun I2 g2 X2 s2 => m190 (c := 60) (by decide) (by decide) s2 (kI_i ?_)))
          unfold opC at ex
          cases i1 : isS (sgn m f p) 60 with
          | true =>
            rw [if_pos i1] at ex
            cases ex
            exact ⟨fun y => absurd y (by decide), fun _ => go I2 g2 X2 s2⟩
          | false =>
            rw [if_neg (by rw [i1]; decide)] at ex
            refine ⟨fun _ => m190 (c := 62) (by decide) (by decide) s2 (kI_i ?_), fun y => absurd rfl y⟩
            cases i2 : isS (sgn m f p) 62 with
            | true =>
              rw [if_pos i2] at ex
              cases ex
              exact ⟨fun y => absurd y (by decide), fun _ => go I2 g2 X2 s2⟩
            | false =>
              rw [if_neg (by rw [i2]; decide)] at ex
              split at ex
              · cases ex
                exact ⟨fun _ => go I2 g2 X2 s2, fun y => absurd rfl y⟩
              · cases ex
        have pn : opC (sgn m f p) = none → pj_R (pj_D 3) ta mc_193 true Q 285 [some (.ref 276), some (.int (nI fs.length)), some (.int (nI kd)), some (.int (bi (isT kd))), none] [] (zc n) I1 J 0 0 := fun ex => by
          rw [if_neg (by rw [ex]; exact fun w => absurd w.2.2 (by decide))] at hst
          exact p285 hst
        refine m190 (c := 60) (by decide) (by decide) s1 (kI_i ?_)
        cases i1 : isS (sgn m f p) 60 with
        | true => exact ⟨fun _ => p228 38 (by unfold opC; rw [if_pos i1]), fun y => absurd y (by decide)⟩
        | false =>
          refine ⟨fun y => absurd rfl y, fun _ => m190 (c := 62) (by decide) (by decide) s1 (kI_i ?_)⟩
          cases i2 : isS (sgn m f p) 62 with
          | true => exact ⟨fun _ => p228 39 (by unfold opC; rw [if_neg (by rw [i1]; decide), if_pos i2]), fun y => absurd y (by decide)⟩
          | false =>
            refine ⟨fun y => absurd rfl y, fun _ => m190 (c := 61) (by decide) (by decide) s1 (kI_i ?_)⟩
            cases i3 : isS (sgn m f p) 61 with
            | true => exact ⟨fun y => absurd y (by decide), fun _ => p228 40 (by unfold opC; rw [if_neg (by rw [i1]; decide), if_neg (by rw [i2]; decide), if_pos i3])⟩
            | false => exact ⟨fun _ => pn (by unfold opC; rw [if_neg (by rw [i1]; decide), if_neg (by rw [i2]; decide), if_neg (by rw [i3]; decide)]), fun y => absurd rfl y⟩
  -- signs of sums and products
  have p87 : ph < 2 → ∀ (x r c : Nat), isS (sgn m f p) c = true → (c = 43 ∧ x = 31 ∧ r = 5 ∨ c = 45 ∧ x = 32 ∧ r = 5 ∨ c = 42 ∧ x = 33 ∧ r = 6 ∨ c = 47 ∧ x = 34 ∧ r = 6 ∨ c = 37 ∧ x = 35 ∧ r = 6) → pj_R (pj_D 3) ta mc_193 true Q 87 [some (.ref 276), none, none, none, none] [] (zc n) I1 J 0 0 := by
    intro hp2 x r c ei hx
    have k3 := (isS_k ei).1
    have hq : Rk ((kd, ph, bg, pa, x :: (flu r os C o).1) :: fs, (flu r os C o).2.1, (flu r os C o).2.2, (sgn m f p).nx, false) → ∀ I' J', pj_fr (gM B) I I' → pj_fr jM J J' → RX B pg ((kd, ph, bg, pa, x :: (flu r os C o).1) :: fs) (flu r os C o).2.1 (flu r os C o).2.2 false I' → MS m f (.ok (sgn m f p).nx) I' J' → Q (some (.int 1)) (zc n, I', J') := by
      rcases hx with ⟨rfl, rfl, rfl⟩ | ⟨rfl, rfl, rfl⟩ | ⟨rfl, rfl, rfl⟩ | ⟨rfl, rfl, rfl⟩ | ⟨rfl, rfl, rfl⟩
      · have e : opS (sgn m f p) = some 31 := by unfold opS; rw [if_pos ei]
        rw [if_pos ⟨hp2, by rw [e]; rfl⟩, e] at hst
        exact hst
      · have e : opS (sgn m f p) = some 32 := by unfold opS; rw [if_neg (by rw [isS_ne ei (by decide)]; decide), if_pos ei]
        rw [if_pos ⟨hp2, by rw [e]; rfl⟩, e] at hst
        exact hst
      · have e : opP (sgn m f p) = some 33 := by unfold opP; rw [if_pos ei]
        rw [if_neg (by rw [opP_S e]; exact fun w => absurd w.2 (by decide)), if_pos ⟨hp2, by rw [e]; rfl⟩, e] at hst
        exact hst
      · have e : opP (sgn m f p) = some 34 := by unfold opP; rw [if_neg (by rw [isS_ne ei (by decide)]; decide), if_pos ei]
        rw [if_neg (by rw [opP_S e]; exact fun w => absurd w.2 (by decide)), if_pos ⟨hp2, by rw [e]; rfl⟩, e] at hst
        exact hst
      · have e : opP (sgn m f p) = some 35 := by unfold opP; rw [if_neg (by rw [isS_ne ei (by decide)]; decide), if_neg (by rw [isS_ne ei (by decide)]; decide), if_pos ei]
        rw [if_neg (by rw [opP_S e]; exact fun w => absurd w.2 (by decide)), if_pos ⟨hp2, by rw [e]; rfl⟩, e] at hst
        exact hst
    have go : ∀ I2, pj_fr (gM B) I I2 → RX B pg ((kd, ph, bg, pa, (flu r os C o).1) :: fs) (flu r os C o).2.1 (flu r os C o).2.2 true I2 → MS m f (.ok p) I2 J → pj_D 3 189 [.ref 276, .int (nI x)] (zc n, I2, J) (kV n fun I7 J7 => pj_D 3 164 [.ref 276] (zc n, I7, J7) (kV n fun I8 J8 => Q (some (.int 1)) (zc n, (pj_u I8 276 40 0), J8))) := fun I2 g2 X2 s2 => by
      have l := fl r
      exact m189 (x := x) (by decide) X2 s2 (by omega) (by omega) (fun I3 f3 X3 s3 => kV_i (hold r x ph bg _ (by omega) (by omega) (by omega) (pj_fr_tr g2 f3) X3 s3 hq))
    have is : ∀ d, isS (sgn m f p) d = decide (c = d) := fun d => by
      by_cases e : c = d
      · rw [decide_eq_true e, ← e]; exact ei
      · rw [decide_eq_false e]; exact isS_ne ei e
    have tl : ∀ I2, pj_fr (gM B) I I2 → RX B pg ((kd, ph, bg, pa, (flu r os C o).1) :: fs) (flu r os C o).2.1 (flu r os C o).2.2 true I2 → MS m f (.ok p) I2 J → pj_D 3 190 [.ref 276, .int 43] (zc n, I2, J) (kI n fun v3 I3 J3 => ((v3 = 0 → pj_D 3 190 [.ref 276, .int 45] (zc n, I3, J3) (kI n fun v4 I4 J4 => ((v4 = 0 → pj_D 3 190 [.ref 276, .int 42] (zc n, I4, J4) (kI n fun v5 I5 J5 => ((v5 = 0 → pj_D 3 190 [.ref 276, .int 47] (zc n, I5, J5) (kI n fun v6 I6 J6 => ((v6 = 0 → pj_D 3 189 [.ref 276, .int 35] (zc n, I6, J6) (kV n fun I7 J7 => pj_D 3 164 [.ref 276] (zc n, I7, J7) (kV n fun I8 J8 => Q (some (.int 1)) (zc n, (pj_u I8 276 40 0), J8)))) ∧ (¬ v6 = 0 → pj_D 3 189 [.ref 276, .int 34] (zc n, I6, J6) (kV n fun I9 J9 => pj_D 3 164 [.ref 276] (zc n, I9, J9) (kV n fun I10 J10 => Q (some (.int 1)) (zc n, (pj_u I10 276 40 0), J10))))))) ∧ (¬ v5 = 0 → pj_D 3 189 [.ref 276, .int 33] (zc n, I5, J5) (kV n fun I11 J11 => pj_D 3 164 [.ref 276] (zc n, I11, J11) (kV n fun I12 J12 => Q (some (.int 1)) (zc n, (pj_u I12 276 40 0), J12))))))) ∧ (¬ v4 = 0 → pj_D 3 189 [.ref 276, .int 32] (zc n, I4, J4) (kV n fun I13 J13 => pj_D 3 164 [.ref 276] (zc n, I13, J13) (kV n fun I14 J14 => Q (some (.int 1)) (zc n, (pj_u I14 276 40 0), J14))))))) ∧ (¬ v3 = 0 → pj_D 3 189 [.ref 276, .int 31] (zc n, I3, J3) (kV n fun I15 J15 => pj_D 3 164 [.ref 276] (zc n, I15, J15) (kV n fun I16 J16 => Q (some (.int 1)) (zc n, (pj_u I16 276 40 0), J16)))))) := by
      intro I2 g2 X2 s2
      refine m190 (c := 43) (by decide) (by decide) s2 (kI_i ?_)
      rw [is, dN.2, dN.1]
      refine ⟨fun w1 => m190 (c := 45) (by decide) (by decide) s2 (kI_i ?_), fun w => ?_⟩
      · rw [is, dN.2, dN.1]
        refine ⟨fun w2 => m190 (c := 42) (by decide) (by decide) s2 (kI_i ?_), fun w => ?_⟩
        · rw [is, dN.2, dN.1]
          refine ⟨fun w3 => m190 (c := 47) (by decide) (by decide) s2 (kI_i ?_), fun w => ?_⟩
          · rw [is, dN.2, dN.1]
            refine ⟨fun w4 => ?_, fun w => ?_⟩
            · obtain rfl : x = 35 := by omega
              exact go I2 g2 X2 s2
            · obtain rfl : x = 34 := by omega
              exact go I2 g2 X2 s2
          · obtain rfl : x = 33 := by omega
            exact go I2 g2 X2 s2
        · obtain rfl : x = 32 := by omega
          exact go I2 g2 X2 s2
      · obtain rfl : x = 31 := by omega
        exact go I2 g2 X2 s2
    refine v193_87 (pj_D_le 3) I1 J (m190 (c := 43) (by decide) (by decide) s1 (kI_i ?_))
    rw [is, dN.2, dN.1]
    refine ⟨fun w => ?_, fun w1 => m190 (c := 45) (by decide) (by decide) s1 (kI_i ?_)⟩
    · obtain rfl : r = 5 := by omega
      exact jo 5 _ (by decide) (fun I2 g2 X2 s2 => tl I2 g2 X2 s2)
    · rw [is, dN.2, dN.1]
      refine ⟨fun w2 => ?_, fun w => ?_⟩
      · obtain rfl : r = 6 := by omega
        exact jo 6 _ (by decide) (fun I2 g2 X2 s2 => tl I2 g2 X2 s2)
      · obtain rfl : r = 5 := by omega
        exact jo 5 _ (by decide) (fun I2 g2 X2 s2 => tl I2 g2 X2 s2)
  refine br_t (by rw [s1.2.1]; decide) ?_
  rw [e36, nI_clamp (by omega), h292]
  refine ⟨v20, m188 (by decide) hkd (kI_i ⟨v20, ?_⟩)⟩
  rw [h293]
  have e2 : (2 ≤ nI ph) ↔ 2 ≤ ph := nI_leI (a := 2) (by decide) (by omega)
  rw [e2]
  refine ⟨fun c => p188 (fun w => by omega) (fun w => by omega), fun c => m190 (c := 43) (by decide) (by decide) s1 (kI_i ?_)⟩
  cases i1 : isS (sgn m f p) 43 with
  | true => exact ⟨fun _ => p87 (by omega) 31 5 43 i1 (by omega), fun y => absurd y (by decide)⟩
  | false =>
    refine ⟨fun y => absurd rfl y, fun _ => m190 (c := 45) (by decide) (by decide) s1 (kI_i ?_)⟩
    cases i2 : isS (sgn m f p) 45 with
    | true => exact ⟨fun _ => p87 (by omega) 32 5 45 i2 (by omega), fun y => absurd y (by decide)⟩
    | false =>
      refine ⟨fun y => absurd rfl y, fun _ => m190 (c := 42) (by decide) (by decide) s1 (kI_i ?_)⟩
      cases i3 : isS (sgn m f p) 42 with
      | true => exact ⟨fun _ => p87 (by omega) 33 6 42 i3 (by omega), fun y => absurd y (by decide)⟩
      | false =>
        refine ⟨fun y => absurd rfl y, fun _ => m190 (c := 47) (by decide) (by decide) s1 (kI_i ?_)⟩
        cases i4 : isS (sgn m f p) 47 with
        | true => exact ⟨fun _ => p87 (by omega) 34 6 47 i4 (by omega), fun y => absurd y (by decide)⟩
        | false =>
          refine ⟨fun y => absurd rfl y, fun _ => m190 (c := 37) (by decide) (by decide) s1 (kI_i ?_)⟩
          cases i5 : isS (sgn m f p) 37 with
          | true => exact ⟨fun y => absurd y (by decide), fun _ => p87 (by omega) 35 6 37 i5 (by omega)⟩
          | false =>
            refine ⟨fun _ => p188 ?_ ?_, fun y => absurd rfl y⟩
            · have e : opS (sgn m f p) = none := by unfold opS; rw [if_neg (by rw [i1]; decide), if_neg (by rw [i2]; decide)]
              rw [e]; exact fun w => absurd w.2 (by decide)
            · have e : opP (sgn m f p) = none := by unfold opP; rw [if_neg (by rw [i3]; decide), if_neg (by rw [i4]; decide), if_neg (by rw [i5]; decide)]
              rw [e]; exact fun w => absurd w.2 (by decide)
end PMv
