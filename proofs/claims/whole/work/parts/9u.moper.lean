/-! the reference's operand -/
def Rk (c : Cf) : Prop := c.2.1.length + tot c.1 ≤ c.2.2.2.1 ∧ ntt c.1 + c.1.length = c.2.2.1 + 1 ∧ c.2.2.1 ≤ 7
theorem nmw : nmM (oww 0) = 1668243828 ∧ nmM (oww 1) = 1936292453 ∧ nmM (oww 2) = 7364985 ∧ nmM (oww 3) = 7168366 ∧ nmM (oww 4) = 6383461 ∧ nmM (oww 5) = 512801993331 ∧ nmM (oww 6) = 28518 ∧ nmM (oww 7) = 512735997299 ∧ nmM (oww 8) = 444301539187 ∧ nmM (oww 9) = 119182682645875 ∧ nmM (oww 10) = 1718186597 ∧ nmM (oww 11) = 2036687218 ∧ nmM (oww 12) = 119200079769191 ∧ nmM (oww 13) = 483006772069 ∧ nmM (oww 14) = 109330027537764 ∧ nmM (oww 15) = 26982 ∧ nmM (oww 16) = 28530 ∧ nmM (oww 17) = 6385252 ∧ nmM (oww 18) = 7237492 ∧ nmM (oww 19) = 6384748 ∧ nmM (oww 20) = 7170414 ∧ nmM (oww 21) = 7168376 := by decide +kernel
theorem nm0 : nmM (oww 0) = 1668243828 := nmw.1
theorem nm1 : nmM (oww 1) = 1936292453 := nmw.2.1
theorem nm2 : nmM (oww 2) = 7364985 := nmw.2.2.1
theorem nm3 : nmM (oww 3) = 7168366 := nmw.2.2.2.1
theorem nm4 : nmM (oww 4) = 6383461 := nmw.2.2.2.2.1
theorem nm5 : nmM (oww 5) = 512801993331 := nmw.2.2.2.2.2.1
theorem nm6 : nmM (oww 6) = 28518 := nmw.2.2.2.2.2.2.1
theorem nm7 : nmM (oww 7) = 512735997299 := nmw.2.2.2.2.2.2.2.1
theorem nm8 : nmM (oww 8) = 444301539187 := nmw.2.2.2.2.2.2.2.2.1
theorem nm9 : nmM (oww 9) = 119182682645875 := nmw.2.2.2.2.2.2.2.2.2.1
theorem nm10 : nmM (oww 10) = 1718186597 := nmw.2.2.2.2.2.2.2.2.2.2.1
theorem nm11 : nmM (oww 11) = 2036687218 := nmw.2.2.2.2.2.2.2.2.2.2.2.1
theorem nm12 : nmM (oww 12) = 119200079769191 := nmw.2.2.2.2.2.2.2.2.2.2.2.2.1
theorem nm13 : nmM (oww 13) = 483006772069 := nmw.2.2.2.2.2.2.2.2.2.2.2.2.2.1
theorem nm14 : nmM (oww 14) = 109330027537764 := nmw.2.2.2.2.2.2.2.2.2.2.2.2.2.2.1
theorem nm15 : nmM (oww 15) = 26982 := nmw.2.2.2.2.2.2.2.2.2.2.2.2.2.2.2.1
theorem nm16 : nmM (oww 16) = 28530 := nmw.2.2.2.2.2.2.2.2.2.2.2.2.2.2.2.2.1
theorem nm17 : nmM (oww 17) = 6385252 := nmw.2.2.2.2.2.2.2.2.2.2.2.2.2.2.2.2.2.1
theorem nm18 : nmM (oww 18) = 7237492 := nmw.2.2.2.2.2.2.2.2.2.2.2.2.2.2.2.2.2.2.1
theorem nm19 : nmM (oww 19) = 6384748 := nmw.2.2.2.2.2.2.2.2.2.2.2.2.2.2.2.2.2.2.2.1
theorem nm20 : nmM (oww 20) = 7170414 := nmw.2.2.2.2.2.2.2.2.2.2.2.2.2.2.2.2.2.2.2.2.1
theorem nm21 : nmM (oww 21) = 7168376 := nmw.2.2.2.2.2.2.2.2.2.2.2.2.2.2.2.2.2.2.2.2.2
theorem dN {P : Prop} [Decidable P] : (bi (decide P) = 0 ↔ ¬ P) ∧ (¬ bi (decide P) = 0 ↔ P) := by
  by_cases c : P
  · rw [decide_eq_true c]
    exact ⟨⟨fun z => absurd z (by decide), fun z => absurd c z⟩, ⟨fun _ => c, fun _ => by decide⟩⟩
  · rw [decide_eq_false c]
    exact ⟨⟨fun _ => c, fun _ => rfl⟩, ⟨fun z => absurd rfl z, fun z => absurd z c⟩⟩
section PMu
variable {n h : Nat} {Q : pj_K} {I : Nat → Nat → Int32} {J : Nat → Nat → Int64} {m : Nat} {f : Nat → Nat} {B pg : Nat} {fs : List Fr} {C : List Tk} {o p : Nat} {b : Bool}
theorem RX_b {b' : Bool} (h : RX B pg fs C o b I) : RX B pg fs C o b' (pj_u I 276 40 (bi b')) := by
  obtain ⟨a1, a2, a3, a4, a5, a6, a7, a8, a9, a10⟩ := h
  exact ⟨(pj_u_j (by decide)).trans a1, a2, (pj_u_j (by decide)).trans a3, (pj_u_j (by decide)).trans a4, MC_fr (fun j _ _ => ⟨pj_u_n (by decide), pj_u_n (by decide)⟩) a5, (pj_u_j (by decide)).trans a6, (pj_u_j (by decide)).trans a7, (pj_u_j (by decide)).trans a8, pj_u_e, FrM_fr (fun c j h1 h2 _ => pj_u_n (by omega)) (fun j _ => pj_u_n (by decide)) a10⟩
/-- open told anew -/
theorem RX_o {o' : Nat} (h : RX B pg fs C o b I) : RX B pg fs C o' b (pj_u I 276 37 (nI o')) := by
  obtain ⟨a1, a2, a3, a4, a5, a6, a7, a8, a9, a10⟩ := h
  exact ⟨(pj_u_j (by decide)).trans a1, a2, (pj_u_j (by decide)).trans a3, (pj_u_j (by decide)).trans a4, MC_fr (fun j _ _ => ⟨pj_u_n (by decide), pj_u_n (by decide)⟩) a5, (pj_u_j (by decide)).trans a6, pj_u_e, (pj_u_j (by decide)).trans a8, (pj_u_j (by decide)).trans a9, FrM_fr (fun c j h1 h2 _ => pj_u_n (by omega)) (fun j _ => pj_u_n (by decide)) a10⟩
/-- the last frame's kind, phase, begins told anew -/
theorem RX_k {kd ph : Nat} {bg : Bool} {pa : Nat} {os : List Nat} {kd' : Nat} (hk : kd' ≤ 6) (hp : kd' = 3 ∨ kd' = 4 → kd = 3 ∨ kd = 4 ∨ kd = 6) (h6 : kd' ≠ 6) (h : RX B pg ((kd, ph, bg, pa, os) :: fs) C o b I) : RX B pg ((kd', ph, bg, pa, os) :: fs) C o b (pj_u I 292 fs.length (nI kd')) := by
  obtain ⟨a1, a2, a3, a4, a5, a6, a7, a8, a9, ⟨b1, b2, b3, b4, b5, b6, b7, b8, b9⟩, a10⟩ := h
  exact ⟨(pj_u_n (by decide)).trans a1, a2, (pj_u_n (by decide)).trans a3, (pj_u_n (by decide)).trans a4, MC_fr (fun j _ _ => ⟨pj_u_n (by decide), pj_u_n (by decide)⟩) a5, (pj_u_n (by decide)).trans a6, (pj_u_n (by decide)).trans a7, (pj_u_n (by decide)).trans a8, (pj_u_n (by decide)).trans a9, ⟨pj_u_e, (pj_u_n (by decide)).trans b2, (pj_u_n (by decide)).trans b3, fun z => (pj_u_n (by decide)).trans (b4 (hp (by have z : kd' = 3 ∨ kd' = 4 ∨ kd' = 6 := z; omega))), (pj_u_n (by decide)).trans b5, OpM_fr (fun j _ => pj_u_n (by decide)) b6, b7, hk, b9⟩, FrM_fr (fun c j h1 h2 h3 => pj_u_j (by omega)) (fun j _ => pj_u_n (by decide)) a10⟩
theorem RX_p {kd ph : Nat} {bg : Bool} {pa : Nat} {os : List Nat} {ph' : Nat} (hk : ph' ≤ 2) (h : RX B pg ((kd, ph, bg, pa, os) :: fs) C o b I) : RX B pg ((kd, ph', bg, pa, os) :: fs) C o b (pj_u I 293 fs.length (nI ph')) := by
  obtain ⟨a1, a2, a3, a4, a5, a6, a7, a8, a9, ⟨b1, b2, b3, b4, b5, b6, b7, b8, b9, b10⟩, a10⟩ := h
  exact ⟨(pj_u_n (by decide)).trans a1, a2, (pj_u_n (by decide)).trans a3, (pj_u_n (by decide)).trans a4, MC_fr (fun j _ _ => ⟨pj_u_n (by decide), pj_u_n (by decide)⟩) a5, (pj_u_n (by decide)).trans a6, (pj_u_n (by decide)).trans a7, (pj_u_n (by decide)).trans a8, (pj_u_n (by decide)).trans a9, ⟨(pj_u_n (by decide)).trans b1, pj_u_e, (pj_u_n (by decide)).trans b3, fun z => (pj_u_n (by decide)).trans (b4 z), (pj_u_n (by decide)).trans b5, OpM_fr (fun j _ => pj_u_n (by decide)) b6, b7, b8, hk, b10⟩, FrM_fr (fun c j h1 h2 h3 => pj_u_j (by omega)) (fun j _ => pj_u_n (by decide)) a10⟩
theorem RX_g {kd ph : Nat} {bg : Bool} {pa : Nat} {os : List Nat} {bg' : Bool} (h : RX B pg ((kd, ph, bg, pa, os) :: fs) C o b I) : RX B pg ((kd, ph, bg', pa, os) :: fs) C o b (pj_u I 294 fs.length (bi bg')) := by
  obtain ⟨a1, a2, a3, a4, a5, a6, a7, a8, a9, ⟨b1, b2, b3, b4, b5, b6, b7, b8⟩, a10⟩ := h
  exact ⟨(pj_u_n (by decide)).trans a1, a2, (pj_u_n (by decide)).trans a3, (pj_u_n (by decide)).trans a4, MC_fr (fun j _ _ => ⟨pj_u_n (by decide), pj_u_n (by decide)⟩) a5, (pj_u_n (by decide)).trans a6, (pj_u_n (by decide)).trans a7, (pj_u_n (by decide)).trans a8, (pj_u_n (by decide)).trans a9, ⟨(pj_u_n (by decide)).trans b1, (pj_u_n (by decide)).trans b2, pj_u_e, fun z => (pj_u_n (by decide)).trans (b4 z), (pj_u_n (by decide)).trans b5, OpM_fr (fun j _ => pj_u_n (by decide)) b6, b7, b8⟩, FrM_fr (fun c j h1 h2 h3 => pj_u_j (by omega)) (fun j _ => pj_u_n (by decide)) a10⟩
theorem m188 (hh : 1 ≤ h) {kd : Nat} (hk : kd ≤ 6) (q : Q (some (.int (bi (isT kd)))) (zc n, I, J)) : pj_D h 188 [.int (nI kd)] (zc n, I, J) Q := by
  refine pj_ent (g := 0) hh (t := mt_188) rfl rfl (v188_0 (pj_D_le 0) I J _ ?_)
  have e1 : (nI kd = 1) ↔ kd = 1 := nI_eq (b := 1) (by omega) (by decide)
  have e5 : (nI kd = 5) ↔ kd = 5 := nI_eq (b := 5) (by omega) (by decide)
  have e6 : (nI kd = 6) ↔ kd = 6 := nI_eq (b := 6) (by omega) (by decide)
  rw [e1, e5, e6]
  refine ⟨fun c => by rw [c] at q; exact q, fun c1 => ⟨fun c => by rw [c] at q; exact q, fun c5 => ⟨fun c6 => ?_, fun c => by rw [c] at q; exact q⟩⟩⟩
  unfold isT at q
  rw [beq_eq_false_iff_ne.mpr c1, beq_eq_false_iff_ne.mpr c5, beq_eq_false_iff_ne.mpr c6] at q
  exact q
/-- opens -/
theorem m191 (hh : 3 ≤ h) {kd : Nat} (hX : RX B pg fs C o b I) (hs : MS m f (.ok p) I J) (hk : (sgn m f p).k ≠ 0) (ho : o ≤ 7) (hl : fs.length ≤ 18) (hkd : kd ≤ 6) (q7 : o = 7 → ∀ I', pj_fr (gM B) I I' → MS m f (.error (5, (sgn m f p).st)) I' J → Q none (zc n, I', J)) (q1 : o ≠ 7 → ∀ I' J', pj_fr (gM B) I I' → pj_fr jM J J' → (∀ pa, pa ≤ 44 → RX B pg ((kd, 0, true, pa, []) :: fs) C (o + 1) b (pj_u I' 295 fs.length (nI pa))) → (¬ (kd = 3 ∨ kd = 4 ∨ kd = 6) → RX B pg ((kd, 0, true, 0, []) :: fs) C (o + 1) b I') → MS m f (.ok (sgn m f p).nx) I' J' → I' 276 36 = nI (fs.length + 1) → Q none (zc n, I', J')) : pj_D h 191 [.ref 276, .int (nI kd)] (zc n, I, J) Q := by
  refine pj_ent (g := 2) hh (t := mt_191) rfl rfl (v191_0 (pj_D_le 2) I J _ ?_)
  have h37 := hX.2.2.2.2.2.2.1
  have e7 : (I 276 37 = 7) ↔ o = 7 := by rw [h37]; exact nI_eq (b := 7) (by omega) (by decide)
  rw [e7]
  refine ⟨fun c => br_t (by rw [hs.2.1]; decide) ?_, fun c => ?_⟩
  · rw [h37, nI_1]
    refine m164s (by decide) (MS_u (by decide) (fun _ => by decide) hs) hk (fun I1 J1 f1 g1 s1 => kV_i ?_)
    refine m186 (by decide) (RX_x f1 (RX_o (o' := o + 1) hX)) s1 hl hkd (fun I2 f2 X2 X3 s2 e2 => kV_i (q1 c I2 J1 ?_ g1 X2 X3 s2 e2))
    exact pj_fr_tr (pj_fr_tr (pj_fr_u pj_fr_rf rfl) (gM_w f1)) f2
  · rw [hs.2.2.1.2.1]
    exact m169 (a := 5) (by decide) (by decide) (by decide) hs (fun I1 f1 s1 => kV_i (br_f (ME_n s1.2).1 (q7 c I1 (gM_w f1) s1)))
theorem m191e (hh : 3 ≤ h) {kd : Int32} {e : Nat × Nat} (hs : MS m f (.error e) I J) (q : Q none (zc n, I, J)) : pj_D h 191 [.ref 276, .int kd] (zc n, I, J) Q :=
  pj_ent (g := 2) hh (t := mt_191) rfl rfl (v191_0 (pj_D_le 2) I J _ ⟨fun _ => br_f (ME_n hs.2).1 q, fun _ => m169e (by decide) hs (kV_i (br_f (ME_n hs.2).1 q))⟩)
/-- operand -/
theorem m187 (hh : 4 ≤ h) {kd ph : Nat} {bg : Bool} {pa : Nat} {os : List Nat} (hp3 : pg < 3) (hX : RX B pg ((kd, ph, bg, pa, os) :: fs) C o b I) (hs : MS m f (.ok p) I J) (hR : Rk ((kd, ph, bg, pa, os) :: fs, C, o, p, b)) (hb1 : os.length + tot fs ≤ 490) (hb2 : fs.length ≤ 17)
    (hst : stO (sgn m f) pg (fun c => Rk c → ∀ I' J', pj_fr (gM B) I I' → pj_fr jM J J' → RX B pg c.1 c.2.1 c.2.2.1 c.2.2.2.2 (pj_u I' 276 40 (bi c.2.2.2.2)) → MS m f (.ok c.2.2.2.1) I' J' → Q (some (.int (bi c.2.2.2.2))) (zc n, I', J')) (fun e => ∀ v I' J', v = 0 ∨ v = 1 → pj_fr (gM B) I I' → pj_fr jM J J' → MS m f (.error e) I' J' → Q (some (.int v)) (zc n, I', J')) kd ph bg pa os fs C o p) : pj_D h 187 [.ref 276] (zc n, I, J) Q := by
  obtain ⟨hR1, hR2, hR3⟩ := hR
  have t0 : tot ((kd, ph, bg, pa, os) :: fs) = os.length + tot fs := rfl
  have n0 : ntt ((kd, ph, bg, pa, os) :: fs) = nts os + ntt fs := rfl
  simp only [List.length_cons] at hR2
  rw [t0] at hR1
  rw [n0] at hR2
  have hm := hs.1.1
  have hpm := hs.2.2.2.1
  simp only at hR1 hR2 hR3
  refine pj_ent (g := 3) hh (t := mt_187) rfl rfl (v187_0 (pj_D_le 3) I J (m168 (by decide) hs (fun I1 f1 s1 => kV_i ?_)))
  unfold stO at hst
  by_cases c4 : (sgn m f p).k = 4
  · rw [if_pos c4] at hst
    have u : lxs (sgn m f) (.ok p) = .error (1, (sgn m f p).pl) := if_pos c4
    rw [u] at s1
    exact br_f (ME_n s1.2).1 (hst 1 I1 J (Or.inr rfl) (gM_w f1) pj_fr_rf s1)
  rw [if_neg c4] at hst
  have u : lxs (sgn m f) (.ok p) = .ok p := if_neg c4
  rw [u] at s1
  have X1 := RX_x f1 hX
  have g1 : pj_fr (gM B) I I1 := gM_w f1
  have e36 : I1 276 36 - 1 = nI fs.length := by rw [X1.2.2.2.2.2.1]; exact nI_pred _
  have hkd : kd ≤ 6 := X1.2.2.2.2.2.2.2.2.2.1.2.2.2.2.2.2.2.1
  have v20 : vp_in (nI fs.length) 20 := vp_in_nI (by omega) (by decide)
  -- a part
  have p171 : ∀ (I2 : Nat → Nat → Int32), pj_fr (gM B) I I2 → RX B pg ((kd, ph, false, pa, os) :: fs) C o b I2 → MS m f (.ok p) I2 J → stP (sgn m f) pg (fun c => Rk c → ∀ I' J', pj_fr (gM B) I I' → pj_fr jM J J' → RX B pg c.1 c.2.1 c.2.2.1 c.2.2.2.2 (pj_u I' 276 40 (bi c.2.2.2.2)) → MS m f (.ok c.2.2.2.1) I' J' → Q (some (.int (bi c.2.2.2.2))) (zc n, I', J')) (fun e => ∀ v I' J', v = 0 ∨ v = 1 → pj_fr (gM B) I I' → pj_fr jM J J' → MS m f (.error e) I' J' → Q (some (.int v)) (zc n, I', J')) kd ph pa os fs C o p → pj_R (pj_D 3) ta mc_187 true Q 171 [some (.ref 276), none, none, none] [] (zc n) I2 J 0 0 := by
    intro I2 g2 X2 s2 hP
    unfold stP at hP
    have p481 : ∀ (t : Tk) (I3 : Nat → Nat → Int32), (sgn m f p).k ≠ 0 → pj_fr (gM B) I I3 → RX B pg ((kd, ph, false, pa, os) :: fs) C o b I3 → MS m f (.ok p) I3 J → (t.1 = 0 → I3 276 6 = nI t.2) → (Rk ((kd, ph, false, pa, os) :: fs, C ++ [t], o, (sgn m f p).nx, true) → ∀ I' J', pj_fr (gM B) I I' → pj_fr jM J J' → RX B pg ((kd, ph, false, pa, os) :: fs) (C ++ [t]) o true (pj_u I' 276 40 (bi true)) → MS m f (.ok (sgn m f p).nx) I' J' → Q (some (.int 1)) (zc n, I', J')) → pj_R (pj_D 3) ta mc_187 true Q 481 [some (.ref 276), none, none, some (.int (nI (mtk t)))] [] (zc n) I3 J 0 0 := by
      intro t I3 k0 g3 X3 s3 hv hq
      have nx := sgn_nx k0
      refine v187_481 (pj_D_le 3) I3 J _ (br_t (by rw [s3.2.1]; decide) (m192 (t := t) (by decide) X3 s3 (by omega) hv (fun I4 f4 X4 s4 _ _ _ => kV_i ?_)))
      refine m164s (by decide) s4 k0 (fun I5 J5 f5 j5 s5 => kV_i (hq ⟨?_, hR2, hR3⟩ I5 J5 (pj_fr_tr g3 (pj_fr_tr f4 (gM_w f5))) j5 (RX_b (RX_x f5 X4)) s5))
      show (C ++ [t]).length + (os.length + tot fs) ≤ (sgn m f p).nx
      rw [List.length_append]
      show C.length + 1 + (os.length + tot fs) ≤ (sgn m f p).nx
      omega
    have p467n : ∀ (I3 : Nat → Nat → Int32), pj_fr (gM B) I I3 → MS m f (.ok p) I3 J → (∀ v I' J', v = 0 ∨ v = 1 → pj_fr (gM B) I I' → pj_fr jM J J' → MS m f (.error (1, (sgn m f p).st)) I' J' → Q (some (.int v)) (zc n, I', J')) → pj_R (pj_D 3) ta mc_187 true Q 467 [some (.ref 276), none, none, some (.int (-1))] [] (zc n) I3 J 0 0 := by
      intro I3 g3 s3 hq
      refine v187_467 (pj_D_le 3) I3 J _ ⟨fun z => absurd rfl z, fun _ => ?_⟩
      rw [s3.2.2.1.2.1]
      exact m169 (a := 1) (by decide) (by decide) (by decide) s3 (fun I4 f4 s4 => kV_i (v187_481 (pj_D_le 3) I4 J _ (br_f (ME_n s4.2).1 (hq 1 I4 J (Or.inr rfl) (pj_fr_tr g3 (gM_w f4)) pj_fr_rf s4))))
    have p467 : ∀ (t : Tk) (I3 : Nat → Nat → Int32), (sgn m f p).k ≠ 0 → pj_fr (gM B) I I3 → RX B pg ((kd, ph, false, pa, os) :: fs) C o b I3 → MS m f (.ok p) I3 J → (t.1 = 0 → I3 276 6 = nI t.2) → mtk t < 100 → (Rk ((kd, ph, false, pa, os) :: fs, C ++ [t], o, (sgn m f p).nx, true) → ∀ I' J', pj_fr (gM B) I I' → pj_fr jM J J' → RX B pg ((kd, ph, false, pa, os) :: fs) (C ++ [t]) o true (pj_u I' 276 40 (bi true)) → MS m f (.ok (sgn m f p).nx) I' J' → Q (some (.int 1)) (zc n, I', J')) → pj_R (pj_D 3) ta mc_187 true Q 467 [some (.ref 276), none, none, some (.int (nI (mtk t)))] [] (zc n) I3 J 0 0 := by
      intro t I3 k0 g3 X3 s3 hv ht hq
      refine v187_467 (pj_D_le 3) I3 J _ ⟨fun _ => p481 t I3 k0 g3 X3 s3 hv hq, fun z => ?_⟩
      have a : ¬ nI (mtk t) < 0 := nI_pos (by omega)
      rw [z] at a
      exact absurd (by decide) a
    -- min, max, if
    have p217 : ∀ (I3 : Nat → Nat → Int32), pj_fr (gM B) I I3 → RX B pg ((kd, ph, false, pa, os) :: fs) C o b I3 → MS m f (.ok p) I3 J → ¬ isS (sgn m f p) 40 = true → (own (sgn m f p) = some 20 ∨ own (sgn m f p) = some 21 ∨ own (sgn m f p) = some 15) → pj_R (pj_D 3) ta mc_187 true Q 217 [some (.ref 276), none, none, none] [] (zc n) I3 J 0 0 := by
      intro I3 g3 X3 s3 n40 hw
      rw [if_neg n40] at hP
      have k1 : (sgn m f p).k = 1 := by rcases hw with w | w | w <;> exact own_k w
      have p276 : ∀ (kk x : Nat) (I4 : Nat → Nat → Int32) (J4 : Nat → Nat → Int64), (x = 36 ∧ kk = 3 ∨ x = 37 ∧ kk = 3 ∨ x = 44 ∧ kk = 6) → pj_fr (gM B) I I4 → pj_fr jM J J4 → RX B pg ((kd, ph, false, pa, os) :: fs) C o b I4 → MS m f (.ok (sgn m f p).nx) I4 J4 → chI (sgn m f) (fun c => Rk c → ∀ I' J', pj_fr (gM B) I I' → pj_fr jM J J' → RX B pg c.1 c.2.1 c.2.2.1 c.2.2.2.2 (pj_u I' 276 40 (bi c.2.2.2.2)) → MS m f (.ok c.2.2.2.1) I' J' → Q (some (.int (bi c.2.2.2.2))) (zc n, I', J')) (fun e => ∀ v I' J', v = 0 ∨ v = 1 → pj_fr (gM B) I I' → pj_fr jM J J' → MS m f (.error e) I' J' → Q (some (.int v)) (zc n, I', J')) kk x ((kd, ph, false, pa, os) :: fs) C o (sgn m f p).nx → pj_D 3 168 [.ref 276] (zc n, I4, J4) (kV n fun I5 J5 => pj_D 3 190 [.ref 276, .int 40] (zc n, I5, J5) (kI n fun v6 I6 J6 => ((¬ v6 = 0 → pj_R (pj_D 3) ta mc_187 true Q 276 [some (.ref 276), none, none, some (.int (nI x))] [] (zc n) I6 J6 0 0) ∧ (v6 = 0 → pj_D 3 169 [.ref 276, .int 1, .int (I6 276 4)] (zc n, I6, J6) (kV n fun I7 J7 => pj_R (pj_D 3) ta mc_187 true Q 276 [some (.ref 276), none, none, some (.int (nI x))] [] (zc n) I7 J7 0 0))))) := by
        intro kk x I4 J4 hx g4 j4 X4 s4 hC
        unfold chI at hC
        have nx1 := sgn_nx (n := m) (f := f) (p := p) (by omega)
        generalize (sgn m f p).nx = p1 at s4 hC nx1
        -- a fault there
        have fl : ∀ (e : Nat × Nat) (I5 : Nat → Nat → Int32), pj_fr (gM B) I I5 → MS m f (.error e) I5 J4 → (∀ v I' J', v = 0 ∨ v = 1 → pj_fr (gM B) I I' → pj_fr jM J J' → MS m f (.error e) I' J' → Q (some (.int v)) (zc n, I', J')) → pj_R (pj_D 3) ta mc_187 true Q 276 [some (.ref 276), none, none, some (.int (nI x))] [] (zc n) I5 J4 0 0 := fun e I5 g5 s5 hq => by
          have go : pj_R (pj_D 3) ta mc_187 true Q 311 [none, none, none, none] [] (zc n) I5 J4 0 0 := v187_311 (pj_D_le 3) I5 J4 (hq 0 I5 J4 (Or.inl rfl) g5 j4 s5)
          exact v187_276 (pj_D_le 3) I5 J4 _ ⟨fun _ => m191e (by decide) s5 (kV_i ⟨fun _ => go, fun z => absurd z (ME_n s5.2).2⟩), fun _ => m191e (by decide) s5 (kV_i ⟨fun _ => go, fun z => absurd z (ME_n s5.2).2⟩)⟩
        refine m168 (by decide) s4 (fun I5 f5 s5 => kV_i ?_)
        by_cases d4 : (sgn m f p1).k = 4
        · rw [if_pos d4] at hC
          have u5 : lxs (sgn m f) (.ok p1) = .error (1, (sgn m f p1).pl) := if_pos d4
          rw [u5] at s5
          have g5 := pj_fr_tr g4 (gM_w (B := B) f5)
          exact m190j (by decide) (fun v => kI_i ⟨fun _ => fl _ I5 g5 s5 hC, fun _ => m169e (by decide) s5 (kV_i (fl _ I5 g5 s5 hC))⟩)
        · rw [if_neg d4] at hC
          have u5 : lxs (sgn m f) (.ok p1) = .ok p1 := if_neg d4
          rw [u5] at s5
          have g5 := pj_fr_tr g4 (gM_w (B := B) f5)
          have X5 := RX_x f5 X4
          refine m190 (c := 40) (by decide) (by decide) s5 (kI_i ?_)
          cases ei : isS (sgn m f p1) 40 with
          | false =>
            rw [if_neg (by rw [ei]; decide)] at hC
            refine ⟨fun z => absurd rfl z, fun _ => ?_⟩
            rw [s5.2.2.1.2.1]
            exact m169 (a := 1) (by decide) (by decide) (by decide) s5 (fun I6 f6 s6 => kV_i (fl _ I6 (pj_fr_tr g5 (gM_w f6)) s6 hC))
          | true =>
            rw [if_pos ei] at hC
            unfold opz at hC
            refine ⟨fun _ => ?_, fun z => absurd z (by decide)⟩
            have k3 := (isS_k ei).1
            have op : pj_D 3 191 [.ref 276, .int (nI kk)] (zc n, I5, J4) (kV n fun I1 J1 => ((¬ (I1 276 8) = 0 → pj_R (pj_D 3) ta mc_187 true Q 311 [none, none, none, none] [] (zc n) I1 J1 0 0) ∧ ((I1 276 8) = 0 → (vp_in ((I1 276 36) - 1) 20 ∧ pj_R (pj_D 3) ta mc_187 true Q 311 [none, none, none, none] [] (zc n) (pj_u I1 295 ((I1 276 36) - 1).toNatClampNeg (nI x)) J1 0 0)))) := by
              refine m191 (by decide) X5 s5 (by omega) hR3 (by simp only [List.length_cons]; omega) (by omega) (fun o7 I6 g6 s6 => kV_i ⟨fun _ => ?_, fun z => absurd z (ME_n s6.2).2⟩) (fun o7 I6 J6 g6 j6 Y6 _ s6 e6 => kV_i ⟨fun z => absurd s6.2.1 z, fun _ => ?_⟩)
              · rw [if_pos o7] at hC
                exact v187_311 (pj_D_le 3) I6 J4 (hC 0 I6 J4 (Or.inl rfl) (pj_fr_tr g5 g6) j4 s6)
              · rw [if_neg o7] at hC
                have e7 : I6 276 36 - 1 = nI (fs.length + 1) := by rw [e6]; exact nI_pred _
                rw [e7, nI_clamp (by omega)]
                have nx2 := sgn_nx (n := m) (f := f) (p := p1) (by omega)
                have Y := Y6 x (by omega)
                refine ⟨vp_in_nI (by omega) (by decide), v187_311 (pj_D_le 3) _ J6 (hC ⟨?_, ?_, ?_⟩ _ J6 (pj_fr_u (pj_fr_tr g5 g6) (gM_9 (by decide) (by decide))) (pj_fr_tr j4 j6) (RX_b Y) (MS_u (by decide) (fun z => by cases z) s6))⟩
                · show C.length + (0 + (os.length + tot fs)) ≤ (sgn m f p1).nx
                  omega
                · show 0 + (nts os + ntt fs) + (fs.length + 1 + 1) = o + 1 + 1
                  omega
                · show o + 1 ≤ 7
                  omega
            refine v187_276 (pj_D_le 3) I5 J4 _ ?_
            rcases hx with ⟨rfl, rfl⟩ | ⟨rfl, rfl⟩ | ⟨rfl, rfl⟩
            · exact ⟨fun _ => op, fun z => absurd z (by decide)⟩
            · exact ⟨fun _ => op, fun z => absurd z (by decide)⟩
            · exact ⟨fun z => absurd rfl z, fun _ => op⟩
      have ah : ∀ (kk x : Nat), (x = 36 ∧ kk = 3 ∨ x = 37 ∧ kk = 3 ∨ x = 44 ∧ kk = 6) → chI (sgn m f) (fun c => Rk c → ∀ I' J', pj_fr (gM B) I I' → pj_fr jM J J' → RX B pg c.1 c.2.1 c.2.2.1 c.2.2.2.2 (pj_u I' 276 40 (bi c.2.2.2.2)) → MS m f (.ok c.2.2.2.1) I' J' → Q (some (.int (bi c.2.2.2.2))) (zc n, I', J')) (fun e => ∀ v I' J', v = 0 ∨ v = 1 → pj_fr (gM B) I I' → pj_fr jM J J' → MS m f (.error e) I' J' → Q (some (.int v)) (zc n, I', J')) kk x ((kd, ph, false, pa, os) :: fs) C o (sgn m f p).nx → pj_D 3 164 [.ref 276] (zc n, I3, J) (kV n fun I4 J4 => pj_D 3 168 [.ref 276] (zc n, I4, J4) (kV n fun I5 J5 => pj_D 3 190 [.ref 276, .int 40] (zc n, I5, J5) (kI n fun v6 I6 J6 => ((¬ v6 = 0 → pj_R (pj_D 3) ta mc_187 true Q 276 [some (.ref 276), none, none, some (.int (nI x))] [] (zc n) I6 J6 0 0) ∧ (v6 = 0 → pj_D 3 169 [.ref 276, .int 1, .int (I6 276 4)] (zc n, I6, J6) (kV n fun I7 J7 => pj_R (pj_D 3) ta mc_187 true Q 276 [some (.ref 276), none, none, some (.int (nI x))] [] (zc n) I7 J7 0 0)))))) := fun kk x hx hC =>
        m164s (by decide) s3 (by omega) (fun I4 J4 f4 j4 s4 => kV_i (p276 kk x I4 J4 hx (pj_fr_tr g3 (gM_w f4)) j4 (RX_x f4 X3) s4 hC))
      refine v187_217 (pj_D_le 3) I3 J (m170 (by decide) s3 c4 (i := 20) (by decide) nm20 (kI_i ?_))
      rw [dN.2, dN.1]
      refine ⟨fun w20 => m170 (by decide) s3 c4 (i := 21) (by decide) nm21 (kI_i ?_), fun w20 => ?_⟩
      · rw [dN.2, dN.1]
        refine ⟨fun w21 => ?_, fun w21 => ?_⟩
        · have w15 : own (sgn m f p) = some 15 := by
            rcases hw with w | w | w
            · exact absurd w w20
            · exact absurd w w21
            · exact w
          rw [if_neg w20, if_neg w21, if_pos w15] at hP
          exact ah 6 44 (by omega) hP
        · rw [if_neg w20, if_pos w21] at hP
          exact ah 3 37 (by omega) hP
      · rw [if_pos w20] at hP
        exact ah 3 36 (by omega) hP
    refine v187_171 (pj_D_le 3) I2 J (m190 (c := 40) (by decide) (by decide) s2 (kI_i ?_))
    by_cases c40 : isS (sgn m f p) 40 = true
    · rw [if_pos c40] at hP
      rw [c40]
      have k3 := (isS_k c40).1
      refine ⟨fun z => absurd z (by decide), fun _ => ?_⟩
      unfold opz at hP
      refine m191 (kd := 2) (by decide) X2 s2 (by omega) hR3 (by simp only [List.length_cons]; omega) (by decide) (fun o7 I6 g6 s6 => kV_i ?_) (fun o7 I6 J6 g6 j6 _ Y6 s6 e6 => kV_i ?_)
      · rw [if_pos o7] at hP
        exact hP 0 I6 J (Or.inl rfl) (pj_fr_tr g2 g6) pj_fr_rf s6
      · rw [if_neg o7] at hP
        have nx2 := sgn_nx (n := m) (f := f) (p := p) (by omega)
        refine hP ⟨?_, ?_, ?_⟩ I6 J6 (pj_fr_tr g2 g6) j6 (RX_b (Y6 (by decide))) s6
        · show C.length + (0 + (os.length + tot fs)) ≤ (sgn m f p).nx
          omega
        · show 0 + (nts os + ntt fs) + (fs.length + 1 + 1) = o + 1 + 1
          omega
        · show o + 1 ≤ 7
          omega
    · rw [if_neg c40] at hP
      have f40 : isS (sgn m f p) 40 = false := by cases e : isS (sgn m f p) 40 with | true => exact absurd e c40 | false => rfl
      rw [f40]
      refine ⟨fun _ => m170 (by decide) s2 c4 (i := 20) (by decide) nm20 (kI_i ?_), fun z => absurd rfl z⟩
      rw [dN.2, dN.1]
      refine ⟨fun w => p217 I2 g2 X2 s2 c40 (Or.inl w), fun w20 => m170 (by decide) s2 c4 (i := 21) (by decide) nm21 (kI_i ?_)⟩
      rw [dN.2, dN.1]
      refine ⟨fun w => p217 I2 g2 X2 s2 c40 (Or.inr (Or.inl w)), fun w21 => m170 (by decide) s2 c4 (i := 15) (by decide) nm15 (kI_i ?_)⟩
      rw [dN.2, dN.1]
      refine ⟨fun w15 => ?_, fun w => p217 I2 g2 X2 s2 c40 (Or.inr (Or.inr w))⟩
      rw [if_neg w20, if_neg w21, if_neg w15] at hP
      have kv := sgn_kv (m := m) (f := f) (p := p) (fun k hk => (hs.1.2.2 k hk).2)
      have h3 := s2.2.2.1.1
      rw [if_neg c4] at h3
      have e2 : (I2 276 3 = 2) ↔ (sgn m f p).k = 2 := by rw [h3]; exact nI_eq (b := 2) (by omega) (by decide)
      rw [e2]
      have hpg := X2.2.2.1
      have g0 : (I2 276 30 = 0) ↔ pg = 0 := by rw [hpg]; exact nI_eq (b := 0) (by omega) (by decide)
      have g2' : (I2 276 30 = 2) ↔ pg = 2 := by rw [hpg]; exact nI_eq (b := 2) (by omega) (by decide)
      refine ⟨fun c2 => ?_, fun c2 => ?_⟩
      · rw [if_neg c2] at hP
        have yes : ∀ i w, own (sgn m f p) = some i → vwd pg (some i) = some w → w < 100 → pj_R (pj_D 3) ta mc_187 true Q 467 [some (.ref 276), none, none, some (.int (nI w))] [] (zc n) I2 J 0 0 := fun i w ho hv hw => by
          rw [ho, hv] at hP
          have := own_k ho
          exact p467 (1, w) I2 (by omega) g2 X2 s2 (fun z => absurd z (by show ¬ (1 : Nat) = 0; decide)) hw hP
        have no : vwd pg (own (sgn m f p)) = none → pj_R (pj_D 3) ta mc_187 true Q 467 [some (.ref 276), none, none, some (.int (-1))] [] (zc n) I2 J 0 0 := fun hv => by
          rw [hv] at hP
          exact p467n I2 g2 s2 hP
        have cnd : ∀ i w k, own (sgn m f p) = some i → (pg = k → vwd pg (some i) = some w) → (¬ pg = k → vwd pg (some i) = none) → w < 100 → ((pg = k → pj_R (pj_D 3) ta mc_187 true Q 467 [some (.ref 276), none, none, some (.int (nI w))] [] (zc n) I2 J 0 0) ∧ (¬ pg = k → pj_R (pj_D 3) ta mc_187 true Q 467 [some (.ref 276), none, none, some (.int (-1))] [] (zc n) I2 J 0 0)) := fun i w k ho a1 a2 hw => ⟨fun e => yes i w ho (a1 e) hw, fun e => no (by rw [ho]; exact a2 e)⟩
        refine m170 (by decide) s2 c4 (i := 1) (by decide) nm1 (kI_i ?_)
        rw [dN.2, dN.1]
        refine ⟨fun w1 => m170 (by decide) s2 c4 (i := 4) (by decide) nm4 (kI_i ?_), fun w => yes 1 1 w rfl (by decide)⟩
        rw [dN.2, dN.1]
        refine ⟨fun w4 => m170 (by decide) s2 c4 (i := 11) (by decide) nm11 (kI_i ?_), fun w => yes 4 2 w rfl (by decide)⟩
        rw [dN.2, dN.1]
        refine ⟨fun w11 => m170 (by decide) s2 c4 (i := 0) (by decide) nm0 (kI_i ?_), fun w => yes 11 3 w rfl (by decide)⟩
        rw [dN.2, dN.1]
        refine ⟨fun w0 => m170 (by decide) s2 c4 (i := 2) (by decide) nm2 (kI_i ?_), fun w => by rw [g0]; exact cnd 0 4 0 w (fun e => if_pos e) (fun e => if_neg e) (by decide)⟩
        rw [dN.2, dN.1]
        refine ⟨fun w2 => m170 (by decide) s2 c4 (i := 12) (by decide) nm12 (kI_i ?_), fun w => by rw [g0]; exact cnd 2 5 0 w (fun e => if_pos e) (fun e => if_neg e) (by decide)⟩
        rw [dN.2, dN.1]
        refine ⟨fun w12 => m170 (by decide) s2 c4 (i := 13) (by decide) nm13 (kI_i ?_), fun w => by rw [g0]; exact cnd 12 6 0 w (fun e => if_pos e) (fun e => if_neg e) (by decide)⟩
        rw [dN.2, dN.1]
        refine ⟨fun w13 => m170 (by decide) s2 c4 (i := 14) (by decide) nm14 (kI_i ?_), fun w => by rw [g2']; exact cnd 13 7 2 w (fun e => if_pos e) (fun e => if_neg e) (by decide)⟩
        rw [dN.2, dN.1]
        refine ⟨fun w14 => no ?_, fun w => by rw [g2']; exact cnd 14 8 2 w (fun e => if_pos e) (fun e => if_neg e) (by decide)⟩
        unfold vwd
        split
        · rename_i e; exact absurd e w1
        · rename_i e; exact absurd e w4
        · rename_i e; exact absurd e w11
        · rename_i e; exact absurd e w0
        · rename_i e; exact absurd e w2
        · rename_i e; exact absurd e w12
        · rename_i e; exact absurd e w13
        · rename_i e; exact absurd e w14
        · rfl
      · rw [if_pos c2] at hP
        exact p467 (0, (sgn m f p).v) I2 (by omega) g2 X2 s2 (fun _ => s2.2.2.1.2.2.2.2.2 (Or.inl c2)) (by show 0 < 100; decide) hP
  -- from the beginning on
  have p110 : pj_R (pj_D 3) ta mc_187 true Q 110 [some (.ref 276), some (.int (nI fs.length)), some (.int (bi (isT kd && bg))), none] [] (zc n) I1 J 0 0 ∨ ((isT kd && bg) = true ∧ own (sgn m f p) = some 18) := by
    by_cases c18 : (isT kd && bg) = true ∧ own (sgn m f p) = some 18
    · exact Or.inr c18
    refine Or.inl ?_
    rw [if_neg c18] at hst
    have X2 := RX_g (bg' := false) X1
    have s2 : MS m f (.ok p) (pj_u I1 294 fs.length (bi false)) J := MS_u (by decide) (fun z => by cases z) s1
    have g2 : pj_fr (gM B) I (pj_u I1 294 fs.length (bi false)) := pj_fr_u g1 (gM_9 (by decide) (by decide))
    refine v187_110 (pj_D_le 3) I1 J _ _ ⟨v20, ?_⟩
    rw [nI_clamp (by omega)]
    cases eF : (isT kd && bg) with
    | false =>
      rw [eF, if_neg (fun z => absurd z.1 (by decide)), if_neg (fun z => absurd z.1 (by decide))] at hst
      exact ⟨fun _ => v187_137 (pj_D_le 3) _ J _ _ ⟨fun _ => p171 _ g2 X2 s2 hst, fun z => absurd rfl z⟩, fun z => absurd rfl z⟩
    | true =>
      rw [eF] at hst
      refine ⟨fun z => absurd z (by decide), fun _ => m190 (c := 91) (by decide) (by decide) s2 (kI_i ?_)⟩
      cases e91 : isS (sgn m f p) 91 with
      | true =>
        rw [if_pos ⟨rfl, e91⟩] at hst
        have k3 := (isS_k e91).1
        refine ⟨fun z => absurd z (by decide), fun _ => ?_⟩
        unfold opz at hst
        refine m191 (kd := 5) (by decide) X2 s2 (by omega) hR3 (by simp only [List.length_cons]; omega) (by decide) (fun o7 I6 g6 s6 => kV_i ?_) (fun o7 I6 J6 g6 j6 _ Y6 s6 e6 => kV_i ?_)
        · rw [if_pos o7] at hst
          exact hst 0 I6 J (Or.inl rfl) (pj_fr_tr g2 g6) pj_fr_rf s6
        · rw [if_neg o7] at hst
          have nx2 := sgn_nx (n := m) (f := f) (p := p) (by omega)
          refine hst ⟨?_, ?_, ?_⟩ I6 J6 (pj_fr_tr g2 g6) j6 (RX_b (Y6 (by decide))) s6
          · show C.length + (0 + (os.length + tot fs)) ≤ (sgn m f p).nx
            omega
          · show 0 + (nts os + ntt fs) + (fs.length + 1 + 1) = o + 1 + 1
            omega
          · show o + 1 ≤ 7
            omega
      | false =>
        rw [if_neg (by rw [e91]; exact fun z => absurd z.2 (by decide))] at hst
        refine ⟨fun _ => v187_137 (pj_D_le 3) _ J _ _ ⟨fun z => absurd z (by decide), fun _ => m170 (by decide) s2 c4 (i := 19) (by decide) nm19 (kI_i ?_)⟩, fun z => absurd rfl z⟩
        rw [dN.2, dN.1]
        refine ⟨fun w => ?_, fun w => ?_⟩
        · rw [if_neg (fun z => w z.2)] at hst
          exact p171 _ g2 X2 s2 hst
        · rw [if_pos ⟨rfl, w⟩] at hst
          have k1 := own_k w
          have nx2 := sgn_nx (n := m) (f := f) (p := p) (by omega)
          refine m192 (t := (5, 0)) (by decide) X2 s2 (by omega) (fun z => absurd z (by decide)) (fun I4 f4 X4 s4 _ _ _ => kV_i ⟨v20, ?_⟩)
          rw [nI_clamp (by omega)]
          have X5 := RX_p (ph' := 2) (by decide) X4
          refine m164s (by decide) (MS_u (by decide) (fun z => by cases z) s4) (by omega) (fun I6 J6 f6 j6 s6 => kV_i ?_)
          refine hst ⟨?_, hR2, hR3⟩ I6 J6 (pj_fr_tr (pj_fr_u (pj_fr_tr g2 f4) (gM_9 (by decide) (by decide))) (gM_w f6)) j6 (RX_b (RX_x f6 X5)) s6
          show (C ++ [(5, 0)]).length + (os.length + tot fs) ≤ (sgn m f p).nx
          rw [List.length_append]
          show C.length + 1 + (os.length + tot fs) ≤ (sgn m f p).nx
          omega
  refine br_t (by rw [s1.2.1]; decide) ?_
  rw [e36, nI_clamp (by omega), X1.2.2.2.2.2.2.2.2.2.1.1]
  refine ⟨v20, m188 (by decide) hkd (kI_i ?_)⟩
  rw [X1.2.2.2.2.2.2.2.2.2.1.2.2.1]
  have p45 : (isT kd && bg) = false → pj_R (pj_D 3) ta mc_187 true Q 45 [some (.ref 276), some (.int (nI fs.length)), none, none] [] (zc n) I1 J 0 0 := fun e => by
    rcases p110 with q | q
    · rw [e] at q
      exact v187_45 (pj_D_le 3) I1 J _ q
    · rw [e] at q
      exact absurd q.1 (by decide)
  refine ⟨fun z => p45 (by rw [(bi_0 _).mp z]; rfl), fun z => ⟨v20, fun y => p45 (by rw [show bg = false from (bi_0 _).mp y, Bool.and_false]), fun y => ?_⟩⟩
  have eF : (isT kd && bg) = true := by rw [show isT kd = true from (bi_n _).mp z, show bg = true from (bi_n _).mp y]; rfl
  refine m170 (by decide) s1 c4 (i := 18) (by decide) nm18 (kI_i ?_)
  rw [dN.2, dN.1]
  refine ⟨fun w => ?_, fun w => ?_⟩
  · rcases p110 with q | q
    · rw [eF] at q
      exact q
    · exact absurd q.2 w
  · rw [if_pos ⟨eF, w⟩] at hst
    have k1 := own_k w
    have h37 := X1.2.2.2.2.2.2.1
    have e7 : (I1 276 37 = 7) ↔ o = 7 := by rw [h37]; exact nI_eq (b := 7) (by omega) (by decide)
    rw [e7]
    refine ⟨fun o7 => ?_, fun o7 => ?_⟩
    · rw [if_neg o7] at hst
      have nx2 := sgn_nx (n := m) (f := f) (p := p) (by omega)
      refine v187_79 (pj_D_le 3) I1 J (br_t (by rw [s1.2.1]; decide) ?_)
      rw [h37, nI_1]
      refine m189 (x := 43) (by decide) (RX_o (o' := o + 1) X1) (MS_u (by decide) (fun _ => by decide) s1) hb1 (by decide) (fun I2 f2 X2 s2 => kV_i ?_)
      refine m164s (by decide) s2 (by omega) (fun I3 J3 f3 j3 s3 => kV_i (hst ⟨?_, ?_, ?_⟩ I3 J3 (pj_fr_tr (pj_fr_tr (pj_fr_u g1 rfl) f2) (gM_w f3)) j3 (RX_b (RX_x f3 X2)) s3))
      · show C.length + (os.length + 1 + tot fs) ≤ (sgn m f p).nx
        omega
      · show nts os + 1 + ntt fs + (fs.length + 1) = o + 1 + 1
        omega
      · show o + 1 ≤ 7
        omega
    · rw [if_pos o7] at hst
      rw [s1.2.2.1.2.1]
      exact m169 (a := 5) (by decide) (by decide) (by decide) s1 (fun I2 f2 s2 => kV_i (v187_79 (pj_D_le 3) I2 J (br_f (ME_n s2.2).1 (hst 1 I2 J (Or.inr rfl) (pj_fr_tr g1 (gM_w f2)) pj_fr_rf s2))))
end PMu
