/-! the reference's reads -/
section PWm
variable {T : Nat → Sg} {pg : Nat} {G G' : Cf → Prop} {E E' : Nat × Nat → Prop} {DN DN' : List Tk → Nat → Prop}
theorem opz_m (hG : ∀ c, G c → G' c) (hE : ∀ e, E e → E' e) {kd pa : Nat} {fs : List Fr} {C : List Tk} {o p : Nat} (h : opz T G E kd pa fs C o p) : opz T G' E' kd pa fs C o p := by
  unfold opz at h ⊢
  by_cases c : o = 7
  · rw [if_pos c] at h ⊢; exact hE _ h
  · rw [if_neg c] at h ⊢; exact hG _ h
theorem chI_m (hG : ∀ c, G c → G' c) (hE : ∀ e, E e → E' e) {kd pa : Nat} {fs : List Fr} {C : List Tk} {o p : Nat} (h : chI T G E kd pa fs C o p) : chI T G' E' kd pa fs C o p := by
  unfold chI at h ⊢
  by_cases c : (T p).k = 4
  · rw [if_pos c] at h ⊢; exact hE _ h
  · rw [if_neg c] at h ⊢
    by_cases d : isS (T p) 40 = true
    · rw [if_pos d] at h ⊢; exact opz_m hG hE h
    · rw [if_neg d] at h ⊢; exact hE _ h
theorem stP_m (hG : ∀ c, G c → G' c) (hE : ∀ e, E e → E' e) {kd ph pa : Nat} {os : List Nat} {fs : List Fr} {C : List Tk} {o p : Nat} (h : stP T pg G E kd ph pa os fs C o p) : stP T pg G' E' kd ph pa os fs C o p := by
  unfold stP at h ⊢
  by_cases c1 : isS (T p) 40 = true
  · rw [if_pos c1] at h ⊢; exact opz_m hG hE h
  · rw [if_neg c1] at h ⊢
    by_cases c2 : own (T p) = some 20
    · rw [if_pos c2] at h ⊢; exact chI_m hG hE h
    · rw [if_neg c2] at h ⊢
      by_cases c3 : own (T p) = some 21
      · rw [if_pos c3] at h ⊢; exact chI_m hG hE h
      · rw [if_neg c3] at h ⊢
        by_cases c4 : own (T p) = some 15
        · rw [if_pos c4] at h ⊢; exact chI_m hG hE h
        · rw [if_neg c4] at h ⊢
          by_cases c5 : (T p).k = 2
          · rw [if_pos c5] at h ⊢; exact hG _ h
          · rw [if_neg c5] at h ⊢
            cases e : vwd pg (own (T p)) with
            | none => rw [e] at h; exact hE _ h
            | some w => rw [e] at h; exact hG _ h
theorem stO_m (hG : ∀ c, G c → G' c) (hE : ∀ e, E e → E' e) {kd ph : Nat} {bg : Bool} {pa : Nat} {os : List Nat} {fs : List Fr} {C : List Tk} {o p : Nat} (h : stO T pg G E kd ph bg pa os fs C o p) : stO T pg G' E' kd ph bg pa os fs C o p := by
  unfold stO at h ⊢
  by_cases c1 : (T p).k = 4
  · rw [if_pos c1] at h ⊢; exact hE _ h
  · rw [if_neg c1] at h ⊢
    by_cases c2 : (isT kd && bg) = true ∧ own (T p) = some 18
    · rw [if_pos c2] at h ⊢
      by_cases c : o = 7
      · rw [if_pos c] at h ⊢; exact hE _ h
      · rw [if_neg c] at h ⊢; exact hG _ h
    · rw [if_neg c2] at h ⊢
      by_cases c3 : (isT kd && bg) = true ∧ isS (T p) 91 = true
      · rw [if_pos c3] at h ⊢; exact opz_m hG hE h
      · rw [if_neg c3] at h ⊢
        by_cases c4 : (isT kd && bg) = true ∧ own (T p) = some 19
        · rw [if_pos c4] at h ⊢; exact hG _ h
        · rw [if_neg c4] at h ⊢; exact stP_m hG hE h
theorem stE_m (hG : ∀ c, G c → G' c) (hE : ∀ e, E e → E' e) (hD : ∀ C p, DN C p → DN' C p) {kd ph : Nat} {bg : Bool} {pa : Nat} {os : List Nat} {fs : List Fr} {C : List Tk} {o p : Nat} (h : stE T G E DN kd ph bg pa fs C os o p) : stE T G' E' DN' kd ph bg pa fs C os o p := by
  unfold stE at h ⊢
  by_cases c1 : kd < 2
  · rw [if_pos c1] at h ⊢; exact hD _ _ h
  · rw [if_neg c1] at h ⊢
    by_cases c2 : kd = 3 ∨ kd = 6
    · rw [if_pos c2] at h ⊢
      by_cases c : isS (T p) 44 = true
      · rw [if_pos c] at h ⊢; exact hG _ h
      · rw [if_neg c] at h ⊢; exact hE _ h
    · rw [if_neg c2] at h ⊢
      by_cases c : isS (T p) (if kd = 5 then 93 else 41) = true
      · rw [if_pos c] at h ⊢
        cases fs with
        | nil => exact h
        | cons F r => exact hG _ h
      · rw [if_neg c] at h ⊢; exact hE _ h
theorem stG_m (hG : ∀ c, G c → G' c) (hE : ∀ e, E e → E' e) (hD : ∀ C p, DN C p → DN' C p) {kd ph : Nat} {bg : Bool} {pa : Nat} {os : List Nat} {fs : List Fr} {C : List Tk} {o p : Nat} (h : stG T G E DN kd ph bg pa os fs C o p) : stG T G' E' DN' kd ph bg pa os fs C o p := by
  unfold stG at h ⊢
  by_cases c1 : (T p).k = 4
  · rw [if_pos c1] at h ⊢; exact hE _ h
  · rw [if_neg c1] at h ⊢
    by_cases c2 : ph < 2 ∧ (opS (T p)).isSome = true
    · rw [if_pos c2] at h ⊢; exact hG _ h
    · rw [if_neg c2] at h ⊢
      by_cases c3 : ph < 2 ∧ (opP (T p)).isSome = true
      · rw [if_pos c3] at h ⊢; exact hG _ h
      · rw [if_neg c3] at h ⊢
        by_cases c4 : isT kd = true ∧ ph = 0 ∧ (opC (T p)).isSome = true
        · rw [if_pos c4] at h ⊢; exact hG _ h
        · rw [if_neg c4] at h ⊢
          by_cases c5 : isT kd = true ∧ own (T p) = some 17
          · rw [if_pos c5] at h ⊢
            by_cases c : ph = 0
            · rw [if_pos c] at h ⊢; exact hE _ h
            · rw [if_neg c] at h ⊢; exact hG _ h
          · rw [if_neg c5] at h ⊢
            by_cases c6 : isT kd = true ∧ own (T p) = some 16
            · rw [if_pos c6] at h ⊢
              by_cases c : ph = 0
              · rw [if_pos c] at h ⊢; exact hE _ h
              · rw [if_neg c] at h ⊢; exact hG _ h
            · rw [if_neg c6] at h ⊢
              by_cases c7 : isT kd = true ∧ ph = 0
              · rw [if_pos c7] at h ⊢; exact hE _ h
              · rw [if_neg c7] at h ⊢; exact stE_m hG hE hD h
end PWm
def prX (T : Nat → Sg) (pg : Nat) : Pz := if pg = 2 then (lev T pg 7).2.1 else (lev T pg 7).1
section PWr
variable {n h : Nat} {Q : pj_K} {I : Nat → Nat → Int32} {J : Nat → Nat → Int64} {m : Nat} {f : Nat → Nat} {B pg : Nat} {C : List Tk} {p : Nat}
theorem m185 (hh : 5 ≤ h) (hp3 : pg < 3) (hs : MS m f (.ok p) I J) (hB : I 276 29 = nI B) (hB2 : B < 2) (hpg : I 276 30 = nI pg) (hC : I 276 28 = nI C.length) (hM : MC (1600 * B) C I) (hl : C.length ≤ p) (q : ∀ s I' J', s = (bd (prX (sgn m f) pg p) fun r => lxs (sgn m f) (.ok r.2)) → pj_fr (gM B) I I' → pj_fr jM J J' → MS m f s I' J' → (∀ c p', prX (sgn m f) pg p = .ok (c, p') → s = .ok p' → I' 276 28 = nI (C ++ c).length ∧ MC (1600 * B) (C ++ c) I') → Q none (zc n, I', J')) : pj_D h 185 [.ref 276, .int (bi (decide (pg = 2)))] (zc n, I, J) Q := by
  refine pj_ent (g := 4) (by omega) (t := mt_185) rfl rfl (v185_0 (pj_D_le 4) I J _ (br_t (by rw [hs.2.1]; decide) ?_))
  have hm := hs.1.1
  have kz : ∀ p, m ≤ p → (sgn m f p).k = 0 := fun p hp => sgn_z hp
  have ks : Ks (sgn m f) := fun p h4 => sgn_c.1 h4
  -- the walk
  have end0 : ∀ (I' : Nat → Nat → Int32) (J' : Nat → Nat → Int64), Q none (zc n, I', J') → pj_R (pj_D 4) ta mc_185 false Q 43 [some (.ref 276), none, some (.int 0)] [] (zc n) I' J' 0 0 := fun I' J' hq => v185_43 (pj_D_le 4) I' J' _ (br_t rfl hq)
  let E : Nat × Nat → Prop := fun e => ∀ I' J', pj_fr (gM B) I I' → pj_fr jM J J' → MS m f (.error e) I' J' → Q none (zc n, I', J')
  let DN : List Tk → Nat → Prop := fun C' p' => ∀ I' J', pj_fr (gM B) I I' → pj_fr jM J J' → I' 276 28 = nI C'.length → MC (1600 * B) C' I' → MS m f (.ok p') I' J' → Q none (zc n, I', J')
  let G : Cf → Prop := fun c => Rk c → ∀ I' J', pj_fr (gM B) I I' → pj_fr jM J J' → RX B pg c.1 c.2.1 c.2.2.1 c.2.2.2.2 I' → MS m f (.ok c.2.2.2.1) I' J' → pj_R (pj_D 4) ta mc_185 false Q 43 [some (.ref 276), none, some (.int 1)] [] (zc n) I' J' 0 0
  have cO : ClO (sgn m f) pg G E := by
    intro kd ph bg pa os fs C0 o p0 hb1 hb2 hst hR I1 J1 f1 j1 X1 s1
    refine v185_43 (pj_D_le 4) I1 J1 _ (br_f (by decide) ⟨fun z => absurd X1.2.2.2.2.2.2.2.2.1 z, fun _ => ?_⟩)
    refine m187 (by decide) hp3 X1 s1 hR hb1 hb2 (stO_m (fun c hc hRc I2 J2 f2 j2 X2 s2 => kI_i ⟨?_, fun z => absurd z (by decide), fun _ => ⟨fun z => absurd s2.2.1 z, fun _ => ?_⟩⟩) (fun e he v I2 J2 hv f2 j2 s2 => kI_i ⟨?_, fun z => absurd z (by decide), fun _ => ⟨fun _ => ?_, fun z => absurd z (ME_n s2.2).2⟩⟩) hst)
    · exact bi_1 _
    · exact hc hRc _ J2 (pj_fr_u (pj_fr_tr f1 f2) rfl) (pj_fr_tr j1 j2) X2 (MS_u (by decide) (fun _ => by decide) s2)
    · rcases hv with rfl | rfl <;> decide
    · exact end0 _ _ (he _ J2 (pj_fr_u (pj_fr_tr f1 f2) rfl) (pj_fr_tr j1 j2) (MS_u (by decide) (fun _ => by decide) s2))
  have cG : ClG (sgn m f) G E DN := by
    intro kd ph bg pa os fs C0 o p0 hb1 hb2 hst hR I1 J1 f1 j1 X1 s1
    refine v185_43 (pj_D_le 4) I1 J1 _ (br_f (by decide) ⟨fun _ => ?_, fun z => absurd (X1.2.2.2.2.2.2.2.2.1.symm.trans z) (show ¬ bi true = 0 by decide)⟩)
    refine m193 (by decide) X1 s1 hR hb1 hb2 (stG_m (fun c hc hRc I2 J2 f2 j2 X2 s2 => kI_i ⟨fun z => absurd z (by decide), fun _ => ⟨fun z => absurd s2.2.1 z, fun _ => ?_⟩⟩) (fun e he v I2 J2 f2 j2 s2 => kI_i ⟨fun _ => ?_, fun _ => ⟨fun _ => ?_, fun z => absurd z (ME_n s2.2).2⟩⟩) (fun C' p' hD I2 J2 f2 j2 a1 a2 s2 => kI_i ⟨fun _ => ?_, fun z => absurd rfl z⟩) hst)
    · exact hc hRc I2 J2 (pj_fr_tr f1 f2) (pj_fr_tr j1 j2) X2 s2
    · exact end0 _ _ (he I2 J2 (pj_fr_tr f1 f2) (pj_fr_tr j1 j2) s2)
    · exact end0 _ _ (he I2 J2 (pj_fr_tr f1 f2) (pj_fr_tr j1 j2) s2)
    · exact end0 _ _ (hD I2 J2 (pj_fr_tr f1 f2) (pj_fr_tr j1 j2) a1 a2 s2)
  have lv := lvM cO cG ks (sgn_TN (n := m) (f := f)) hm kz 7 0 (by decide)
  -- the end of all
  have eE : ∀ e, prX (sgn m f) pg p = .error e → E e := fun e he I' J' f1 j1 s1 => q (.error e) I' J' (by rw [he]; rfl) f1 j1 s1 (fun c p' h1 h2 => by cases h2)
  have eD : ∀ c p', prX (sgn m f) pg p = .ok (c, p') → ((sgn m f p').k = 4 → E (1, (sgn m f p').pl)) ∧ ((sgn m f p').k ≠ 4 → DN (C ++ c) p') := fun c p' he => ⟨fun h4 I' J' f1 j1 s1 => q _ I' J' (by rw [he]; exact (if_pos h4).symm) f1 j1 s1 (fun c p' h1 h2 => by cases h2), fun h4 I' J' f1 j1 a1 a2 s1 => q (.ok p') I' J' (by rw [he]; exact (if_neg h4).symm) f1 j1 s1 (fun c2 p2 h1 h2 => by rw [he] at h1; cases h1; exact ⟨a1, a2⟩)⟩
  have start : ∀ kd, kd ≤ 1 → G ([(kd, 0, true, 0, [])], C, 0, p, false) → pj_D 4 186 [.ref 276, .int (nI kd)] (zc n, (pj_u (pj_u (pj_u (pj_u I 276 36 0) 276 37 0) 276 39 0) 276 40 0), J) (kV n fun I1 J1 => pj_R (pj_D 4) ta mc_185 false Q 43 [some (.ref 276), none, some (.int 1)] [] (zc n) I1 J1 0 0) := fun kd hk hG => by
    have X0 : RX B pg [] C 0 false (pj_u (pj_u (pj_u (pj_u I 276 36 0) 276 37 0) 276 39 0) 276 40 0) := by
      refine ⟨?_, hB2, ?_, ?_, ?_, ?_, ?_, ?_, pj_u_e, trivial⟩
      · rw [pj_u_j (by decide), pj_u_j (by decide), pj_u_j (by decide), pj_u_j (by decide)]; exact hB
      · rw [pj_u_j (by decide), pj_u_j (by decide), pj_u_j (by decide), pj_u_j (by decide)]; exact hpg
      · rw [pj_u_j (by decide), pj_u_j (by decide), pj_u_j (by decide), pj_u_j (by decide)]; exact hC
      · exact MC_fr (fun j _ _ => ⟨by rw [pj_u_n (by decide), pj_u_n (by decide), pj_u_n (by decide), pj_u_n (by decide)], by rw [pj_u_n (by decide), pj_u_n (by decide), pj_u_n (by decide), pj_u_n (by decide)]⟩) hM
      · rw [pj_u_j (by decide), pj_u_j (by decide), pj_u_j (by decide), pj_u_e]; rfl
      · rw [pj_u_j (by decide), pj_u_j (by decide), pj_u_e]; rfl
      · rw [pj_u_j (by decide), pj_u_e]; rfl
    have s0 : MS m f (.ok p) (pj_u (pj_u (pj_u (pj_u I 276 36 0) 276 37 0) 276 39 0) 276 40 0) J := MS_u (by decide) (fun _ => by decide) (MS_u (by decide) (fun _ => by decide) (MS_u (by decide) (fun _ => by decide) (MS_u (by decide) (fun _ => by decide) hs)))
    refine m186 (by decide) X0 s0 (by decide) (by omega) (fun I1 f1 _ X1 s1 _ => kV_i (hG ⟨?_, rfl, Nat.zero_le 7⟩ I1 J (pj_fr_tr (pj_fr_u (pj_fr_u (pj_fr_u (pj_fr_u pj_fr_rf rfl) rfl) rfl) rfl) f1) pj_fr_rf (X1 (by omega)) s1))
    show C.length + (0 + 0) ≤ p
    omega
  by_cases c2 : pg = 2
  · have eX : prX (sgn m f) pg = (lev (sgn m f) pg 7).2.1 := if_pos c2
    rw [eX] at eE eD
    rw [decide_eq_true c2]
    refine ⟨fun z => absurd z (by decide), fun _ => start 1 (by decide) ?_⟩
    refine lv.1.2.1 1 0 [] [] C p (by decide) sto_0 (by decide) (by decide) eE (fun c p' e C' pd ph g0 g1 g2 g3 => ?_)
    have nd := lv.2.2 _ _ _ e
    refine cG _ _ _ _ _ _ _ _ _ (by simp only [List.length_append, List.length_nil]; show pd.length + 0 + 0 ≤ 490; omega) (by decide) (gE (fun h4 => (eD c p' e).1 h4) (fun h2 => by
      rcases g0 with g0 | g0
      · exact g0.2
      · omega) (fun _ => ⟨by omega, nd⟩) (fun h4 => ?_))
    unfold stE
    rw [if_pos (by decide), g1]
    exact (eD c p' e).2 h4
  · have eX : prX (sgn m f) pg = (lev (sgn m f) pg 7).1 := if_neg c2
    rw [eX] at eE eD
    rw [decide_eq_false c2]
    refine ⟨fun _ => start 0 (by decide) ?_, fun z => absurd rfl z⟩
    refine lv.1.1 0 0 true 0 [] [] C p (by decide) (fun z => absurd z (by decide)) sto_0 (by decide) (by decide) eE (fun c p' e C' pd g1 g2 g3 => ?_)
    refine cG _ _ _ _ _ _ _ _ _ (by simp only [List.length_append, List.length_nil]; show pd.length + 0 + 0 ≤ 490; omega) (by decide) (gE (fun h4 => (eD c p' e).1 h4) (fun _ => lv.2.1 _ _ _ e) (fun z => absurd z (by decide)) (fun h4 => ?_))
    unfold stE
    rw [if_pos (by decide), g1]
    exact (eD c p' e).2 h4
end PWr
