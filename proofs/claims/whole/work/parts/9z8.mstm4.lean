/-! the reference's statements: wearing, a statement, its end -/
theorem dnC {P : Prop} [Decidable P] {A B : Prop} (a : ¬ P → A) (b : P → B) : (bi (decide P) = 0 → A) ∧ (¬ bi (decide P) = 0 → B) := ⟨fun z => a (dN.1.mp z), fun z => b (dN.2.mp z)⟩
theorem sgn_sk {m : Nat} {f : Nat → Nat} {p : Nat} : (sgn m f p).st = skb f (m - p) p ∧ ((sgn m f p).k = 0 ↔ m ≤ skb f (m - p) p) := by
  unfold sgn sgq
  generalize skb f (m - p) p = q
  split
  · rename_i c
    exact ⟨rfl, fun _ => c, fun _ => rfl⟩
  · rename_i c
    have g : ∀ t : Sg, t.1 ≠ 0 → (t.k = 0 ↔ m ≤ q) := fun t ht => ⟨fun z => absurd z ht, fun z => absurd z c⟩
    split
    · split
      · exact ⟨rfl, g _ (by simp)⟩
      · split <;> exact ⟨rfl, g _ (by simp)⟩
    · split
      · split
        · exact ⟨rfl, g _ (by simp)⟩
        · split <;> exact ⟨rfl, g _ (by simp)⟩
      · exact ⟨rfl, g _ (by simp)⟩
theorem sgn_nm {m : Nat} {f : Nat → Nat} {p : Nat} (hp : p ≤ m) : (sgn m f p).nx ≤ m := by
  by_cases k : (sgn m f p).k = 0
  · have s := sgn_sk (m := m) (f := f) (p := p)
    have g := skb_ge (f := f) (r := m - p) (p := p)
    have h := s.2.mp k
    have e : sgn m f p = (0, skb f (m - p) p, skb f (m - p) p, skb f (m - p) p, [], 0) := by
      unfold sgn sgq
      rw [if_pos h]
    rw [e]
    show skb f (m - p) p ≤ m
    omega
  · exact (sgn_nx k).2
def fin (T : Nat → Sg) (ct : Nat) (s : Rs Sa) : Rs Sa := bd s fun a => if isS (T a.1) 59 = true ∧ ct = 80 ∧ (T (T a.1).nx).k ≠ 0 then .error (6, (T (T a.1).nx).st) else bd (exS T 59 a.1) fun q => .ok (q, a.2)
theorem MWp_aW {W : Wk} {B : Nat} {C : List Tk} {I I' : Nat → Nat → Int32} {J J' : Nat → Nat → Int64} {k c : Nat} (h : MWp W B C I J) (hf : ∀ x j, 278 ≤ x → x ≤ 287 → ¬ (x = 284 ∧ j = 7 * B + k) → I' x j = I x j) (hj : ∀ x j, 290 ≤ x → x ≤ 291 → J' x j = J x j) (e : I' 284 (7 * B + k) = nI c) : MWp (W.aW k c) B C I' J' := by
  obtain ⟨⟨w1, w2, w3, w4, w5, w6⟩, w7, w8, w9, w10⟩ := h
  have g : ∀ x j, 278 ≤ x → x ≤ 287 → x ≠ 284 → I' x j = I x j := fun x j h1 h2 h3 => hf x j h1 h2 (fun z => h3 z.1)
  refine ⟨⟨w1, w2, w3, (g _ _ (by decide) (by decide) (by decide)).trans w4, (g _ _ (by decide) (by decide) (by decide)).trans w5, fun j hj => ⟨(g _ _ (by decide) (by decide) (by decide)).trans (w6 j hj).1, (g _ _ (by decide) (by decide) (by decide)).trans (w6 j hj).2⟩⟩, PMp_fr (fun c j hc => g c j (by omega) (by omega) (by omega)) w7, (g _ _ (by decide) (by decide) (by decide)).trans w8, fun j hk => (hj _ _ (by decide) (by decide)).trans (w9 j hk), fun j hk => ⟨(hj _ _ (by decide) (by decide)).trans (w10 j hk).1, (g _ _ (by decide) (by decide) (by decide)).trans (w10 j hk).2.1, (g _ _ (by decide) (by decide) (by decide)).trans (w10 j hk).2.2.1, ?_⟩⟩
  show I' 284 (7 * B + j) = wo (upd1 W.mco k (some c) j)
  by_cases z : j = k
  · subst z
    rw [upd1_e]
    exact e
  · rw [upd1_n z]
    exact (hf _ _ (by decide) (by decide) (by omega)).trans (w10 j hk).2.2.2
section PMq
variable {n h : Nat} {Q : pj_K} {I : Nat → Nat → Int32} {J : Nat → Nat → Int64} {m : Nat} {f : Nat → Nat} {B : Nat}
theorem fwr_M {W : Wk} {c : Nat} (h8 : W.nc ≤ 8) (hV : WV W) (hc : c < 2 ^ 31) (hw : ∀ k, k < W.nm → I 284 (7 * B + k) = wo (W.mco k)) : ff (fun k => decide (I 284 (7 * B + k) = nI c)) W.nm 0 = fwr W c := ff_cong (fun j _ hj => by
  have hj : j < W.nm := by omega
  rw [hw j hj]
  exact decide_eq_decide.mpr (wo_eq (fun d e => by have := hV.2.2.2.2.1 j d hj e; omega) hc))
/-- wearing -/
theorem m181 (hh : 5 ≤ h) (hB2 : B < 2) {a : Sa} (hk : KQ m f B (.ok a) I J) (hV : SV a) (ho : own (sgn m f a.1) = some 5) (q : ∀ I' J', FM B I I' → FJ B J J' → KQ m f B (we1 (sgn m f) a.2.1 (sgn m f a.1).nx a.2.2) I' J' → Q none (zc n, I', J')) : pj_D h 181 [.ref 276] (zc n, I, J) Q := by
  obtain ⟨hs, hB, hc⟩ := hk
  have hs : MS m f (.ok a.1) I J := hs
  obtain ⟨hw, h28, hMC⟩ := hc a rfl
  have hw' := hw
  obtain ⟨⟨h8, h7, -, h12, h13, wcs⟩, pc, w15, wcn, wmn⟩ := hw'
  have k0 : (sgn m f a.1).k ≠ 0 := by rw [own_k ho]; decide
  refine pj_ent (g := 4) hh (t := mt_181) rfl rfl (v181_0 (pj_D_le 4) I J ?_)
  have erQ : ∀ e I9 J9, we1 (sgn m f) a.2.1 (sgn m f a.1).nx a.2.2 = .error e → pj_fr xM I I9 → pj_fr jM J J9 → MS m f (.error e) I9 J9 → Q none (zc n, I9, J9) := fun e I9 J9 u f9 j9 s9 => q I9 J9 (FM_x f9) (FJ_j j9) (by rw [u]; exact KQ_er s9 ((f9 276 29 rfl).trans hB))
  have e68 : ∀ e I9 J9 v, we1 (sgn m f) a.2.1 (sgn m f a.1).nx a.2.2 = .error e → pj_fr xM I I9 → pj_fr jM J J9 → MS m f (.error e) I9 J9 → pj_R (pj_D 4) ta mc_181 false Q 68 [some (.ref 276), some (.int v), none] [] (zc n) I9 J9 0 0 := fun e I9 J9 v u f9 j9 s9 => v181_68 (pj_D_le 4) I9 J9 _ (m177 (i := 6) (by decide) (by decide) nm6 s9 (fun I2 J2 f2 j2 s2 => kV_i (br_f (ME_n s2.2).1 (erQ e I2 J2 u (xtr f9 f2) (pj_fr_tr j9 j2) s2))))
  have e57 : ∀ e I9 J9 v, we1 (sgn m f) a.2.1 (sgn m f a.1).nx a.2.2 = .error e → pj_fr xM I I9 → pj_fr jM J J9 → MS m f (.error e) I9 J9 → pj_R (pj_D 4) ta mc_181 false Q 57 [some (.ref 276), some (.int v), none] [] (zc n) I9 J9 0 0 := fun e I9 J9 v u f9 j9 s9 => v181_57 (pj_D_le 4) I9 J9 _ ⟨fun _ => e68 e I9 J9 v u f9 j9 s9, fun z => absurd z (ME_n s9.2).2⟩
  have e121 : ∀ e I9 J9 v w, we1 (sgn m f) a.2.1 (sgn m f a.1).nx a.2.2 = .error e → pj_fr xM I I9 → pj_fr jM J J9 → MS m f (.error e) I9 J9 → pj_R (pj_D 4) ta mc_181 false Q 121 [some (.ref 276), some (.int v), some (.int w)] [] (zc n) I9 J9 0 0 := fun e I9 J9 v w u f9 j9 s9 => v181_121 (pj_D_le 4) I9 J9 _ _ (br_f (ME_n s9.2).1 (erQ e I9 J9 u f9 j9 s9))
  refine m172 (x := false) (by decide) hs k0 (fun z => by cases z) (fun _ I1 J1 f1 j1 s1 => kI_i ⟨fun _ => ?_, fun z => absurd z (by decide)⟩)
  refine m182 (by decide) s1 (fun I2 v2 f2 s2 hv2 => kL_i ?_)
  have F2 := xtr f1 f2
  refine s176 (by decide) ((F2 276 29 rfl).trans hB) hB2 ((F2 281 B rfl).trans h13) h7 (kI_i ?_)
  have s2 : MS m f (bd (nam (sgn m f) (sgn m f a.1).nx) _) I2 J1 := s2
  cases e1 : nam (sgn m f) (sgn m f a.1).nx with
  | error e =>
    rw [e1] at s2
    have s2 : MS m f (.error e) I2 J1 := s2
    have u : we1 (sgn m f) a.2.1 (sgn m f a.1).nx a.2.2 = .error e := by unfold we1; rw [e1]; rfl
    exact ⟨fun _ => e57 e I2 J1 _ u F2 j1 s2, fun z => absurd z (ME_n s2.2).2⟩
  | ok l =>
    rw [e1] at s2
    have s2 : MS m f (.ok (sgn m f a.1).nx) I2 J1 := s2
    have n1 := nam_ok e1
    have v2e := hv2 _ l rfl e1
    subst v2e
    have ue : we1 (sgn m f) a.2.1 (sgn m f a.1).nx a.2.2 = match mnd a.2.1 l with
      | none => .error (3, (sgn m f (sgn m f a.1).nx).st)
      | some k => if (a.2.1.mco k).isSome = true then .error (3, (sgn m f (sgn m f a.1).nx).st) else bd (wrd (sgn m f) 6 (sgn m f (sgn m f a.1).nx).nx) fun q => we2 (sgn m f) a.2.1 k q a.2.2 := by
      unfold we1
      rw [e1]
      rfl
    have b48 : we1 (sgn m f) a.2.1 (sgn m f a.1).nx a.2.2 = .error (3, (sgn m f (sgn m f a.1).nx).st) → ∀ v, pj_R (pj_D 4) ta mc_181 false Q 48 [some (.ref 276), some (.int v), none] [] (zc n) I2 J1 0 0 := fun u v => by
      refine v181_48 (pj_D_le 4) I2 J1 _ ?_
      rw [show I2 276 4 = nI (sgn m f (sgn m f a.1).nx).st from s2.2.2.1.2.1]
      exact m169 (a := 3) (by decide) (by decide) (by decide) s2 (fun I3 f3 s3 => kV_i (e57 _ I3 J1 v u (xtr F2 f3) j1 s3))
    rw [mnd_M hV.1 n1.2.2.2 (fun k hk => (j1 291 _ rfl).trans (wmn k hk).1)]
    refine ⟨fun z => absurd s2.2.1 z, fun _ => ?_⟩
    cases z1 : mnd a.2.1 l with
    | none =>
      rw [z1] at ue
      exact ⟨fun _ => b48 ue _, fun z => absurd rfl z⟩
    | some k =>
      rw [z1] at ue
      have k7 := ff_some z1
      rw [show wo (some k) = nI k from rfl, (F2 276 29 rfl).trans hB, li_7, nI_clamp (by omega)]
      have vi : vp_in (nI (7 * B + k)) 14 := vp_in_nI (by omega) (by decide)
      refine ⟨fun z => absurd ((wo_none (o := some k) (fun d e => by cases e; omega)).mp z) (by simp), fun _ => ⟨vi, ?_⟩⟩
      rw [(F2 284 _ rfl).trans (wmn k (by omega)).2.2.2, wo_none (fun d e => by have := hV.1.2.2.2.2.1 k d (by omega) e; omega)]
      cases z2 : a.2.1.mco k with
      | some d =>
        refine ⟨fun z => (by cases z), fun _ => b48 (ue.trans ?_) _⟩
        show (if (a.2.1.mco k).isSome = true then _ else _) = _
        rw [z2]
        rfl
      | none =>
        have ue : we1 (sgn m f) a.2.1 (sgn m f a.1).nx a.2.2 = bd (wrd (sgn m f) 6 (sgn m f (sgn m f a.1).nx).nx) fun q => we2 (sgn m f) a.2.1 k q a.2.2 := ue.trans (by
          show (if (a.2.1.mco k).isSome = true then _ else _) = _
          rw [z2]
          rfl)
        refine ⟨fun _ => v181_57 (pj_D_le 4) I2 J1 _ ⟨fun z => absurd s2.2.1 z, fun _ => ?_⟩, fun z => absurd rfl z⟩
        refine m164s (by decide) s2 (by rw [n1.1]; decide) (fun I3 J3 f3 j3 s3 => kV_i (v181_68 (pj_D_le 4) I3 J3 _ ?_))
        refine m177 (i := 6) (by decide) (by decide) nm6 s3 (fun I4 J4 f4 j4 s4 => kV_i ?_)
        have F4 := xtr (xtr F2 f3) f4
        have G4 := pj_fr_tr (pj_fr_tr j1 j3) j4
        have s4 : MS m f (wrd (sgn m f) 6 (sgn m f (sgn m f a.1).nx).nx) I4 J4 := s4
        cases e2 : wrd (sgn m f) 6 (sgn m f (sgn m f a.1).nx).nx with
        | error e =>
          rw [e2] at s4 ue
          exact br_f (ME_n s4.2).1 (erQ e I4 J4 ue F4 G4 s4)
        | ok p2 =>
          rw [e2] at s4 ue
          have ue : we1 (sgn m f) a.2.1 (sgn m f a.1).nx a.2.2 = we2 (sgn m f) a.2.1 k p2 a.2.2 := ue
          refine br_t (by rw [s4.2.1]; decide) ?_
          refine m182 (by decide) s4 (fun I5 v5 f5 s5 hv5 => kL_i ?_)
          have F5 := xtr F4 f5
          refine s175 (by decide) ((F5 276 29 rfl).trans hB) hB2 ((F5 278 B rfl).trans h12) h8 (kI_i ?_)
          have s5 : MS m f (bd (nam (sgn m f) p2) _) I5 J4 := s5
          cases e3 : nam (sgn m f) p2 with
          | error e =>
            rw [e3] at s5
            have s5 : MS m f (.error e) I5 J4 := s5
            have u : we1 (sgn m f) a.2.1 (sgn m f a.1).nx a.2.2 = .error e := ue.trans (by unfold we2; rw [e3]; rfl)
            exact ⟨fun _ => e121 e I5 J4 _ _ u F5 G4 s5, fun z => absurd z (ME_n s5.2).2⟩
          | ok l2 =>
            rw [e3] at s5
            have s5 : MS m f (.ok p2) I5 J4 := s5
            have n3 := nam_ok e3
            have v5e := hv5 _ l2 rfl e3
            subst v5e
            have ue : we1 (sgn m f) a.2.1 (sgn m f a.1).nx a.2.2 = match cnd a.2.1 l2 with
              | none => .error (3, (sgn m f p2).st)
              | some c => if (fwr a.2.1 c).isSome = true then .error (3, (sgn m f p2).st) else .ok ((sgn m f p2).nx, a.2.1.aW k c, a.2.2) := ue.trans (by
              unfold we2
              rw [e3]
              rfl)
            have b112 : we1 (sgn m f) a.2.1 (sgn m f a.1).nx a.2.2 = .error (3, (sgn m f p2).st) → ∀ v w, pj_R (pj_D 4) ta mc_181 false Q 112 [some (.ref 276), some (.int v), some (.int w)] [] (zc n) I5 J4 0 0 := fun u v w => by
              refine v181_112 (pj_D_le 4) I5 J4 _ _ ?_
              rw [show I5 276 4 = nI (sgn m f p2).st from s5.2.2.1.2.1]
              exact m169 (a := 3) (by decide) (by decide) (by decide) s5 (fun I6 f6 s6 => kV_i (e121 _ I6 J4 v w u (xtr F5 f6) G4 s6))
            rw [cnd_M hV.1 n3.2.2.2 (fun k hk => (G4 290 _ rfl).trans (wcn k hk))]
            refine ⟨fun z => absurd s5.2.1 z, fun _ => ?_⟩
            cases z3 : cnd a.2.1 l2 with
            | none =>
              rw [z3] at ue
              exact ⟨fun _ => b112 ue _ _, fun z => absurd rfl z⟩
            | some c =>
              rw [z3] at ue
              have c8 := ff_some z3
              refine ⟨fun z => absurd ((wo_none (o := some c) (fun d e => by cases e; omega)).mp z) (by simp), fun _ => s183 (by decide) ((F5 276 29 rfl).trans hB) hB2 ((F5 281 B rfl).trans h13) h7 (kI_i ?_)⟩
              rw [show wo (some c) = nI c from rfl, fwr_M h8 hV.1 (by omega) (fun j hj => (F5 284 _ rfl).trans (wmn j hj).2.2.2)]
              cases z4 : fwr a.2.1 c with
              | some j =>
                refine ⟨fun z => absurd z smN, fun _ => b112 (ue.trans ?_) _ _⟩
                show (if (fwr a.2.1 c).isSome = true then _ else _) = _
                rw [z4]
                rfl
              | none =>
                have ue : we1 (sgn m f) a.2.1 (sgn m f a.1).nx a.2.2 = .ok ((sgn m f p2).nx, a.2.1.aW k c, a.2.2) := ue.trans (by
                  show (if (fwr a.2.1 c).isSome = true then _ else _) = _
                  rw [z4]
                  rfl)
                refine ⟨fun _ => v181_121 (pj_D_le 4) I5 J4 _ _ (br_t (by rw [s5.2.1]; decide) ?_), fun z => absurd rfl z⟩
                refine m164s (by decide) s5 (by rw [n3.1]; decide) (fun I6 J6 f6 j6 s6 => kV_i ?_)
                have F6 := xtr F5 f6
                have G6 := pj_fr_tr G4 j6
                rw [(F6 276 29 rfl).trans hB, li_7, nI_clamp (by omega)]
                refine ⟨vi, q _ J6 (FM_u (FM_x F6) (fun z => by have := z.2.2.2.1 (by decide); omega)) (FJ_j G6) ?_⟩
                rw [ue]
                refine ⟨MS_I (by decide) s6, by rw [pj_u_n (by decide)]; exact (F6 276 29 rfl).trans hB, fun b eb => ?_⟩
                cases eb
                refine ⟨MWp_aW (MWp_x F6 G6 hw) (fun x j h1 h2 h3 => ?_) (fun _ _ _ _ => rfl) pj_u_e, by rw [pj_u_n (by decide)]; exact (F6 276 28 rfl).trans h28, MC_fr (fun j _ _ => ⟨by rw [pj_u_n (by decide)]; exact F6 288 j rfl, by rw [pj_u_n (by decide)]; exact F6 289 j rfl⟩) hMC⟩
                by_cases y1 : x = 284
                · rw [y1, pj_u_j (fun z => h3 ⟨y1, z⟩)]
                · rw [pj_u_n y1]
/-- statement -/
theorem m167 (hh : 7 ≤ h) (hB2 : B < 2) {a : Sa} (hk : KQ m f B (.ok a) I J) (hV : SV a) (q : ∀ s I' J', s = stm (sgn m f) a ∨ s = mlx (sgn m f) (stm (sgn m f) a) → FM B I I' → FJ B J J' → KQ m f B s I' J' → Q none (zc n, I', J')) : pj_D h 167 [.ref 276] (zc n, I, J) Q := by
  have hk0 := hk
  obtain ⟨hs, hB, hc⟩ := hk0
  have hs : MS m f (.ok a.1) I J := hs
  obtain ⟨hw, h28, hMC⟩ := hc a rfl
  refine pj_ent (g := 6) hh (t := mt_167) rfl rfl (v167_0 (pj_D_le 6) I J (m168 (by decide) hs (fun I1 f1 s1 => kV_i ?_)))
  by_cases c4 : (sgn m f a.1).k = 4
  · have u : lxs (sgn m f) (.ok a.1) = .error (1, (sgn m f a.1).pl) := if_pos c4
    rw [u] at s1
    have no : own (sgn m f a.1) = none := own_nk (by omega)
    have us : stm (sgn m f) a = .error (1, (sgn m f a.1).pl) := by
      unfold stm
      rw [no]
      rfl
    exact br_f (ME_n s1.2).1 (q _ I1 J (Or.inl us.symm) (FM_x f1) FJ_rf (KQ_er s1 ((f1 276 29 rfl).trans hB)))
  · have u : lxs (sgn m f) (.ok a.1) = .ok a.1 := if_neg c4
    rw [u] at s1
    have k1 : KQ m f B (.ok a) I1 J := ⟨s1, (f1 276 29 rfl).trans hB, fun b eb => by
      cases eb
      exact ⟨MWp_x f1 pj_fr_rf hw, (f1 276 28 rfl).trans h28, MC_fr (fun j _ _ => ⟨f1 288 j rfl, f1 289 j rfl⟩) hMC⟩⟩
    have F1 : FM B I I1 := FM_x f1
    have q' : ∀ s I' J', s = stm (sgn m f) a ∨ s = mlx (sgn m f) (stm (sgn m f) a) → FM B I1 I' → FJ B J J' → KQ m f B s I' J' → Q none (zc n, I', J') := fun s I' J' e F G k => q s I' J' e (FM_tr F1 F) G k
    refine br_t (by rw [s1.2.1]; decide) ?_
    refine m170 (i := 0) (by decide) s1 c4 (by decide) nm0 (kI_i (dnC (fun c0 => ?_) (fun c0 => m171 (by decide) hB2 k1 hV c0 (fun I' J' F G k => kV_i (q' _ I' J' (Or.inl (by unfold stm; rw [if_pos c0])) F G k)))))
    refine m170 (i := 3) (by decide) s1 c4 (by decide) nm3 (kI_i (dnC (fun c3 => ?_) (fun c3 => m180 (by decide) hB2 k1 hV c3 (fun I' J' F G k => kV_i (q' _ I' J' (Or.inl (by unfold stm; rw [if_neg c0, if_pos c3])) F G k)))))
    refine m170 (i := 5) (by decide) s1 c4 (by decide) nm5 (kI_i (dnC (fun c5 => ?_) (fun c5 => m181 (by decide) hB2 k1 hV c5 (fun I' J' F G k => kV_i (q' _ I' J' (Or.inl (by unfold stm; rw [if_neg c0, if_neg c3, if_pos c5])) F G k)))))
    refine m170 (i := 7) (by decide) s1 c4 (by decide) nm7 (kI_i (dnC (fun c7 => ?_) (fun c7 => m184 (k := 0) (by decide) hB2 (by decide) k1 hV c7 (fun I' J' F G k => kV_i (q' _ I' J' (Or.inr (by unfold stm; rw [if_neg c0, if_neg c3, if_neg c5, if_pos c7])) F G k)))))
    refine m170 (i := 8) (by decide) s1 c4 (by decide) nm8 (kI_i (dnC (fun c8 => ?_) (fun c8 => m184 (k := 1) (by decide) hB2 (by decide) k1 hV c8 (fun I' J' F G k => kV_i (q' _ I' J' (Or.inr (by unfold stm; rw [if_neg c0, if_neg c3, if_neg c5, if_neg c7, if_pos c8])) F G k)))))
    refine m170 (i := 9) (by decide) s1 c4 (by decide) nm9 (kI_i (dnC (fun c9 => ?_) (fun c9 => m184 (k := 2) (by decide) hB2 (by decide) k1 hV c9 (fun I' J' F G k => kV_i (q' _ I' J' (Or.inr (by unfold stm; rw [if_neg c0, if_neg c3, if_neg c5, if_neg c7, if_neg c8, if_pos c9])) F G k)))))
    refine m170 (i := 10) (by decide) s1 c4 (by decide) nm10 (kI_i (dnC (fun c10 => ?_) (fun c10 => m196 (by decide) hB2 k1 c10 (fun I' J' F G k => kV_i (q' _ I' J' (Or.inl (by unfold stm; rw [if_neg c0, if_neg c3, if_neg c5, if_neg c7, if_neg c8, if_neg c9, if_pos c10])) F G k)))))
    have us : stm (sgn m f) a = .error (1, (sgn m f a.1).st) := by
      unfold stm
      rw [if_neg c0, if_neg c3, if_neg c5, if_neg c7, if_neg c8, if_neg c9, if_neg c10, sgn_c.1 c4]
    rw [show I1 276 4 = nI (sgn m f a.1).st from s1.2.2.1.2.1]
    exact m169 (a := 1) (by decide) (by decide) (by decide) s1 (fun I2 f2 s2 => kV_i (q' _ I2 J (Or.inl us.symm) (FM_x f2) FJ_rf (KQ_er s2 ((f2 276 29 rfl).trans k1.2.1))))
/-- finishes -/
theorem m197 (hh : 4 ≤ h) {ct : Nat} (hct : ct ≤ 80) {s s' : Rs Sa} (hs' : s' = s ∨ s' = mlx (sgn m f) s) (hk : KQ m f B s' I J) (q : ∀ I' J', FM B I I' → FJ B J J' → KQ m f B (fin (sgn m f) ct s) I' J' → Q none (zc n, I', J')) : pj_D h 197 [.ref 276, .int (nI ct)] (zc n, I, J) Q := by
  obtain ⟨hs, hB, hc⟩ := hk
  refine pj_ent (g := 3) hh (t := mt_197) rfl rfl (v197_0 (pj_D_le 3) I J _ (m168 (by decide) hs (fun I1 f1 s1 => kV_i ?_)))
  have e29 : I1 276 29 = nI B := (f1 276 29 rfl).trans hB
  cases s with
  | error e =>
    have u : s' = .error e := by rcases hs' with z | z <;> exact z
    subst u
    exact br_f (ME_n s1.2).1 (q I1 J (FM_x f1) FJ_rf (KQ_er s1 e29))
  | ok a =>
    by_cases c4 : (sgn m f a.1).k = 4
    · have uf : fin (sgn m f) ct (.ok a) = .error (1, (sgn m f a.1).pl) := by
        have e : isS (sgn m f a.1) 59 = false := isS_nk (by omega)
        show (if isS (sgn m f a.1) 59 = true ∧ _ then _ else bd (exS (sgn m f) 59 a.1) _) = _
        rw [if_neg (by rw [e]; simp)]
        unfold exS
        rw [e]
        rfl
      have u : lxs (sgn m f) (rsM s') = .error (1, (sgn m f a.1).pl) := by
        rcases hs' with z | z
        · rw [z]; exact if_pos c4
        · have : mlx (sgn m f) (.ok a) = .error (1, (sgn m f a.1).pl) := if_pos c4
          rw [z, this]; rfl
      rw [u] at s1
      exact br_f (ME_n s1.2).1 (q I1 J (FM_x f1) FJ_rf (by rw [uf]; exact KQ_er s1 e29))
    · have u : s' = .ok a := by
        rcases hs' with z | z
        · exact z
        · exact z.trans (if_neg c4)
      subst u
      have u : lxs (sgn m f) (rsM (.ok a)) = .ok a.1 := if_neg c4
      rw [u] at s1
      obtain ⟨hw, h28, hMC⟩ := hc a rfl
      have hp : a.1 ≤ m := s1.2.2.2.1
      have hm : m ≤ 1600 := s1.1.1
      have nm := sgn_nm (f := f) hp
      have sk := sgn_sk (m := m) (f := f) (p := (sgn m f a.1).nx)
      have kv := sgn_kv (m := m) (f := f) (p := a.1) (fun k hk => (s1.1.2.2 k hk).2)
      refine br_t (by rw [s1.2.1]; decide) ?_
      rw [show I1 276 5 = nI (sgn m f a.1).nx from s1.2.2.1.2.2.1]
      have uf : fin (sgn m f) ct (.ok a) = if isS (sgn m f a.1) 59 = true ∧ ct = 80 ∧ (sgn m f (sgn m f a.1).nx).k ≠ 0 then .error (6, (sgn m f (sgn m f a.1).nx).st) else bd (exS (sgn m f) 59 a.1) fun q => .ok (q, a.2) := rfl
      have ed : ¬ (isS (sgn m f a.1) 59 = true ∧ ct = 80 ∧ (sgn m f (sgn m f a.1).nx).k ≠ 0) → pj_D 3 198 [.ref 276, .int 59] (zc n, I1, J) (kV n fun I2 J2 => Q none (zc n, I2, J2)) := fun cr => by
        refine m198 (c := 59) (by decide) (by decide) s1 (fun I2 J2 f2 j2 s2 => kV_i (q I2 J2 (FM_x (xtr f1 f2)) (FJ_j j2) ?_))
        rw [uf, if_neg cr]
        refine ⟨?_, (f2 276 29 rfl).trans e29, fun b eb => ?_⟩
        · have t : rsM (bd (exS (sgn m f) 59 a.1) fun q => .ok (q, a.2)) = bd (.ok a.1) (exS (sgn m f) 59) := by
            show bd (bd (exS (sgn m f) 59 a.1) _) _ = exS (sgn m f) 59 a.1
            cases exS (sgn m f) 59 a.1 <;> rfl
          rw [t]
          exact s2
        · obtain ⟨x, e1, eb⟩ := bd_ok eb
          cases eb
          have F2 := xtr f1 f2
          exact ⟨MWp_x F2 j2 hw, (F2 276 28 rfl).trans h28, MC_fr (fun j _ _ => ⟨F2 288 j rfl, F2 289 j rfl⟩) hMC⟩
      have en : ∀ at', at' ≤ m → at' = skb f (m - (sgn m f a.1).nx) (sgn m f a.1).nx → pj_D 3 190 [.ref 276, .int 59] (zc n, I1, J) (kI n fun v1 I1 J1 => ((v1 = 0 → pj_D 3 198 [.ref 276, .int 59] (zc n, I1, J1) (kV n fun I2 J2 => Q none (zc n, I2, J2))) ∧ (¬ v1 = 0 → ((¬ nI ct = 80 → pj_D 3 198 [.ref 276, .int 59] (zc n, I1, J1) (kV n fun I3 J3 => Q none (zc n, I3, J3))) ∧ (nI ct = 80 → (((I1 276 2) ≤ nI at' → pj_D 3 198 [.ref 276, .int 59] (zc n, I1, J1) (kV n fun I4 J4 => Q none (zc n, I4, J4))) ∧ (¬ (I1 276 2) ≤ nI at' → pj_D 3 169 [.ref 276, .int 6, .int (nI at')] (zc n, I1, J1) (kV n fun I5 J5 => pj_D 3 198 [.ref 276, .int 59] (zc n, I5, J5) (kV n fun I6 J6 => Q none (zc n, I6, J6))))))))) ) := fun at' h1 h2 => by
        refine m190 (c := 59) (by decide) (by decide) s1 (kI_i ?_)
        cases e : isS (sgn m f a.1) 59 with
        | false => exact ⟨fun _ => ed (fun z => by rw [e] at z; cases z.1), fun z => absurd rfl z⟩
        | true =>
          refine ⟨fun z => absurd z (by decide), fun _ => ⟨fun z => ed (fun y => z (by rw [y.2.1]; rfl)), fun z => ?_⟩⟩
          have c80 : ct = 80 := (nI_eq (b := 80) (by omega) (by decide)).mp z
          rw [s1.1.2.1]
          refine pk_le m at' (fun c => ed (fun y => y.2.2 (sk.2.mpr (by omega)))) (fun c => ?_)
          have ne : (sgn m f (sgn m f a.1).nx).k ≠ 0 := fun y => by have := sk.2.mp y; omega
          refine m169 (a := 6) (by decide) (by decide) (by decide) s1 (fun I2 f2 s2 => kV_i (m198 (c := 59) (by decide) (by decide) s2 (fun I3 J3 f3 j3 s3 => kV_i (q I3 J3 (FM_x (xtr (xtr f1 f2) f3)) (FJ_j j3) ?_))))
          rw [uf, if_pos ⟨e, c80, ne⟩, sk.1, ← h2]
          exact KQ_er s3 ((f3 276 29 rfl).trans ((f2 276 29 rfl).trans e29))
      suffices loop : ∀ r at', r + at' = m → skb f r at' = skb f (m - (sgn m f a.1).nx) (sgn m f a.1).nx → pj_R (pj_D 3) ta mc_197 false Q 17 [some (.ref 276), some (.int (nI ct)), some (.int (nI at'))] [] (zc n) I1 J 0 0 from loop (m - (sgn m f a.1).nx) (sgn m f a.1).nx (by omega) rfl
      intro r
      induction r with
      | zero =>
        intro at' hr he
        refine v197_17 (pj_D_le 3) I1 J _ _ ?_
        rw [s1.1.2.1]
        exact pk_le m at' (fun c => en at' (by omega) he) (fun c => by omega)
      | succ r ih =>
        intro at' hr he
        refine v197_17 (pj_D_le 3) I1 J _ _ ?_
        have t4 := s1.1.2.2 at' (by omega)
        have e32 : (nI (f at') = 32) ↔ f at' = 32 := nI_eq (b := 32) (by omega) (by decide)
        have e10 : (nI (f at') = 10) ↔ f at' = 10 := nI_eq (b := 10) (by omega) (by decide)
        rw [nI_clamp (by omega), t4.1, nI_1, e32, e10]
        have vi : vp_in (nI at') 1800 := vp_in_nI (by omega) (by decide)
        have he : (match blk (f at') with | true => skb f r (at' + 1) | false => at') = skb f (m - (sgn m f a.1).nx) (sgn m f a.1).nx := he
        have no : ¬ f at' = 32 → ¬ f at' = 10 → at' = skb f (m - (sgn m f a.1).nx) (sgn m f a.1).nx := fun h1 h2 => by
          have : blk (f at') = false := by unfold blk; rw [beq_eq_false_iff_ne.mpr h1, beq_eq_false_iff_ne.mpr h2]; rfl
          rw [this] at he
          exact he
        have yes : f at' = 32 ∨ f at' = 10 → skb f r (at' + 1) = skb f (m - (sgn m f a.1).nx) (sgn m f a.1).nx := fun h1 => by
          have : blk (f at') = true := by
            unfold blk
            rcases h1 with h1 | h1 <;> rw [h1] <;> rfl
          rw [this] at he
          exact he
        refine ⟨fun z => ?_, fun _ => ⟨vi, fun c32 => ih (at' + 1) (by omega) (yes (Or.inl c32)), fun c32 => ⟨vi, fun c10 => en at' (by omega) (no c32 c10), fun c10 => ih (at' + 1) (by omega) (yes (Or.inr c10))⟩⟩⟩
        rw [s1.1.2.1, nI_leI (by omega) (by omega)] at z
        omega
end PMq
