/-! passes: the reference, the whole -/
section PPy
variable {n h : Nat} {Q : pj_K} {I : Nat → Nat → Int32} {J : Nat → Nat → Int64} {A : Ab}
def PT (nm : Nat) (I : Nat → Nat → Int32) : Prop := ∀ t, t < off nm nm → I 312 t = nI (pcd nm t)
theorem tS_q' {c j : Nat} (h : qM c j = false) : tS 1 c j = false := tS_q h
def r103 (Q : pj_K) (n : Nat) (m c s N M k w : Int32) (I : Nat → Nat → Int32) (J : Nat → Nat → Int64) : Prop := pj_R (pj_D 6) ta mc_239 false Q 103 [some (.ref 276), some (.int m), some (.int c), some (.int s), some (.int N), some (.int M), some (.int k), some (.int w), none, none, none] [] (zc n) I J 0 0
/-- one way -/
theorem way {m c k w N M : Nat} {s : Int32} {I1 : Nat → Nat → Int32} {J1 : Nat → Nat → Int64} (hA : AV A) (hI : InvM A I J) (hm : m < A.W.nm) (hc : c < A.W.nc) (eN : N = off A.W.nm A.W.nm) (hk : k ≤ 3) (hw : w < N ^ k) (hf : pj_fr qM I I1) (hj : pj_fr sS J J1) (hT : PT A.W.nm I1)
    (nx : okW A.W m c k A.L w = none → ∀ I2 J2, pj_fr qM I I2 → pj_fr sS J J2 → PT A.W.nm I2 → r103 Q n (nI m) (nI c) s (nI N) (nI M) (nI k) (nI (w + 1)) I2 J2)
    (fin : ∀ x, okW A.W m c k A.L w = some x → ∀ I2 J2, pj_fr qM I I2 → pj_fr sS J J2 → Q (some (.int (if s = -1 then nI k else match ix k s with | none => -1 | some i => nI (x.getD i 0)))) (zc n, I2, J2)) :
    pj_R (pj_D 6) ta mc_239 false Q 120 [some (.ref 276), some (.int (nI m)), some (.int (nI c)), some (.int s), some (.int (nI N)), some (.int (nI M)), some (.int (nI k)), some (.int (nI w)), some (.int (nI w)), some (.int (nI k - 1)), none] [] (zc n) I1 J1 0 0 := by
  have h7 := hA.2.2.1
  have h8 := hA.2.1
  have oB := off_b h7
  have ew : w % off A.W.nm A.W.nm ^ k = w := by rw [← eN]; exact Nat.mod_eq_of_lt hw
  have okx : ∀ x, okW A.W m c k A.L w = some x → x.length = k ∧ ∀ i, i < k → x.getD i 0 = pcd A.W.nm (w / N ^ (k - 1 - i) % N) := fun x e => by
    rw [eN]
    exact okW_x (L := A.L) (m := m) (c := c) (by rw [ew]; exact e)
  -- the changes, one after another
  have chs : ∀ r i L I2 J2, r + i = k → pj_fr qM I I2 → pj_fr sS J J2 → PT A.W.nm I2 → (∀ i, i < k → I2 313 i = nI (pcd A.W.nm (w / N ^ (k - 1 - i) % N))) → LM A.W 1 L I2 → LV A.W L → (okW A.W m c k A.L w).isSome = (okW A.W m c r L (w % N ^ r)).isSome → pj_R (pj_D 6) ta mc_239 false Q 167 [some (.ref 276), some (.int (nI m)), some (.int (nI c)), some (.int s), some (.int (nI N)), some (.int (nI M)), some (.int (nI k)), some (.int (nI w)), none, some (.int 1), some (.int (nI i))] [] (zc n) I2 J2 0 0 := by
    intro r
    induction r with
    | zero =>
      intro i L I2 J2 hi f2 j2 t2 rw2 l2 v2 es
      obtain rfl : i = k := by omega
      have e7 : (7 : Int32) + nI m = nI (7 * 1 + m) := nI_add 7 m
      have e0 : okW A.W m c 0 L (w % N ^ 0) = if L.wor m = some c then some [] else none := rfl
      refine v239_167 (pj_D_le 6) I2 J2 _ _ _ _ _ _ _ _ _ (br_t (nI_le (Nat.le_refl _) (by omega)) ⟨fun z => absurd z (by decide), fun _ => ?_⟩)
      rw [e7, nI_clamp (n := 7 * 1 + m) (by omega), (l2.2.2.2.2 m hm).2.2.1, wo_eq (fun d e => by have := LV_c v2 hm e; omega) (by omega), nI_1 w]
      refine ⟨pk_in (7 * 1 + m) 154 (by omega), fun z => ?_, fun z => ?_⟩
      · rw [e0, if_neg z] at es
        refine nx ?_ I2 J2 f2 j2 t2
        cases e : okW A.W m c i A.L w with
        | none => rfl
        | some x => rw [e] at es; cases es
      · rw [e0, if_pos z] at es
        cases e : okW A.W m c i A.L w with
        | none => rw [e] at es; cases es
        | some x =>
          have q := fin x e I2 J2 f2 j2
          have ox := okx x e
          refine ⟨fun y => ?_, fun y => ?_⟩
          · rw [if_neg y] at q
            refine s179 (by decide) (kI_i ?_)
            cases ei : ix i s with
            | some a =>
              have ha := ix_p ei
              have es : s = nI a := by
                unfold ix at ei
                split at ei
                · rename_i y
                  cases ei
                  obtain ⟨j, hj, rfl⟩ := nI_of (x := s) (fun c => absurd (Int32.lt_of_le_of_lt y.1 c) (by decide))
                  rw [nI_clamp hj]
                · cases ei
              rw [ei] at q
              subst es
              rw [su_1 (by omega), if_pos ⟨nI_le (a := 0) (Nat.zero_le _) (by omega), nI_le (by omega) (by omega)⟩]
              refine ⟨fun z => absurd z (by decide), fun _ => ⟨pk_in a 3 (by omega), ?_⟩⟩
              rw [nI_clamp (n := a) (by omega), rw2 a ha, ← ox.2 a ha]
              exact q
            | none =>
              rw [ei] at q
              rw [if_neg (fun z => ?_)]
              · exact ⟨fun _ => q, fun z => absurd rfl z⟩
              · obtain ⟨j, hj, rfl⟩ := nI_of (x := s) (fun c => absurd (Int32.lt_of_le_of_lt z.1 c) (by decide))
                have z2 := z.2
                rcases Nat.eq_zero_or_pos i with rfl | hp
                · have z2 : nI j ≤ -1 := z2
                  exact absurd (Int32.le_trans z.1 z2) (by decide)
                · rw [su_1 hp] at z2
                  have jl : j < i := by
                    rcases Nat.lt_or_ge j i with y | y
                    · exact y
                    · exact absurd z2 (nI_ge (by omega) (by omega))
                  rw [ix_s jl (by omega)] at ei
                  cases ei
          · rw [if_pos y] at q; exact q
    | succ r ih =>
      intro i L I2 J2 hi f2 j2 t2 rw2 l2 v2 es
      obtain ⟨B, b1, b2⟩ := (InvM_q hA f2 j2 hI).2.1
      have Np : 0 < N := by
        rcases Nat.eq_zero_or_pos N with z | z
        · rw [z] at hw
          obtain ⟨k', rfl⟩ : ∃ k', k = k' + 1 := ⟨k - 1, by omega⟩
          rw [Nat.pow_succ, Nat.mul_zero] at hw
          exact absurd hw (Nat.not_lt_zero _)
        · exact z
      have td := Nat.mod_lt (w / N ^ r) Np
      obtain ⟨a, b, hab, hb, et⟩ := off_p (nm := A.W.nm) (t := w / N ^ r % N) (by rw [← eN]; exact td)
      have ep : pcd A.W.nm (w / N ^ r % N) = 8 * a + b := by rw [et, pcd_e hab hb]
      have er : I2 313 i = nI (8 * a + b) := by
        rw [rw2 i (by omega), show k - 1 - i = r by omega, ep]
      refine v239_167 (pj_D_le 6) I2 J2 _ _ _ _ _ _ _ _ _ (br_f (nI_ge (by omega) (by omega)) ⟨fun z => absurd z (by decide), fun _ => ⟨pk_in i 3 (by omega), pk_in i 3 (by omega), ?_⟩⟩)
      have d8 : nI (8 * a + b) / 8 = nI a := (pk_div (d := 8) (by omega) (by decide) (by decide)).trans (congrArg nI (by omega))
      have m8 : nI (8 * a + b) - nI (8 * a + b) / 8 * 8 = nI b := (pk_rem (d := 8) (by omega) (by decide) (by decide)).trans (congrArg nI (by omega))
      rw [nI_clamp (n := i) (by omega), er, m8, d8, nI_1 i]
      have eo : okW A.W m c (r + 1) L (w % N ^ (r + 1)) = match wel A.W L a b with
        | true => (okW A.W m c r (L.chg a b) (w % N ^ r)).map (fun x => (8 * a + b) :: x)
        | false => none := by
        have : okW A.W m c (r + 1) L (w % N ^ (r + 1)) = match wel A.W L (pcd A.W.nm (w % N ^ (r + 1) / off A.W.nm A.W.nm ^ r) / 8) (pcd A.W.nm (w % N ^ (r + 1) / off A.W.nm A.W.nm ^ r) % 8) with
          | true => (okW A.W m c r (L.chg (pcd A.W.nm (w % N ^ (r + 1) / off A.W.nm A.W.nm ^ r) / 8) (pcd A.W.nm (w % N ^ (r + 1) / off A.W.nm A.W.nm ^ r) % 8)) (w % N ^ (r + 1) % off A.W.nm A.W.nm ^ r)).map (fun x => pcd A.W.nm (w % N ^ (r + 1) / off A.W.nm A.W.nm ^ r) :: x)
          | false => none := rfl
        rw [this, ← eN, dg_1, dg_2, ep, show (8 * a + b) / 8 = a by omega, show (8 * a + b) % 8 = b by omega]
      refine s240 (by decide) b1 b2 hA.1 l2 v2 (by omega) hb (by omega) (fun I3 J3 f3 j3 e3 => kI_i ?_) (fun I3 J3 f3 j3 e3 l3 => kI_i ?_)
      · rw [eo, e3] at es
        have nx := nx (by
          cases e : okW A.W m c k A.L w with
          | none => rfl
          | some x => rw [e] at es; cases es) I3 J3 (pj_fr_tr f2 (pj_fr_w f3 (fun c j hc => tS_q hc))) (pj_fr_tr j2 j3) (fun t ht => (f3 _ _ (tS_f (by omega))).trans (t2 t ht))
        refine v239_167 (pj_D_le 6) I3 J3 _ _ _ _ _ _ _ _ _ ?_
        rw [nI_1 w]
        exact ⟨fun _ => ⟨fun _ => nx, fun z => absurd rfl z⟩, fun _ => ⟨fun _ => ⟨fun _ => nx, fun z => absurd rfl z⟩, fun z => absurd rfl z⟩⟩
      · rw [eo, e3] at es
        have tt := wel_t e3
        refine ih (i + 1) (L.chg a b) I3 J3 (by omega) (pj_fr_tr f2 (pj_fr_w f3 (fun c j hc => tS_q hc))) (pj_fr_tr j2 j3) (fun t ht => (f3 _ _ (tS_f (by omega))).trans (t2 t ht)) (fun j hj => (f3 _ _ (tS_f (by omega))).trans (rw2 j hj)) l3 (chg_LV v2 (by omega) hb tt.1 tt.2 (by omega)) ?_
        rw [es]
        show (Option.map _ (okW A.W m c r (L.chg a b) (w % N ^ r))).isSome = _
        rw [Option.isSome_map]
  -- the digits
  suffices dig : ∀ r I2, r ≤ k → pj_fr qM I I2 → PT A.W.nm I2 → (∀ i, r ≤ i → i < k → I2 313 i = nI (pcd A.W.nm (w / N ^ (k - 1 - i) % N))) → pj_R (pj_D 6) ta mc_239 false Q 120 [some (.ref 276), some (.int (nI m)), some (.int (nI c)), some (.int s), some (.int (nI N)), some (.int (nI M)), some (.int (nI k)), some (.int (nI w)), some (.int (nI (w / N ^ (k - r)))), some (.int (nI r - 1)), none] [] (zc n) I2 J1 0 0 by
    have := dig k I1 (Nat.le_refl _) hf hT (fun i h1 h2 => by omega)
    rw [Nat.sub_self, Nat.pow_zero, Nat.div_one] at this
    exact this
  have wb : w < 9262 := by
    have : N ^ k ≤ 21 ^ 3 := Nat.le_trans (Nat.pow_le_pow_left (by omega) k) (Nat.pow_le_pow_right (by decide) hk)
    have e : (21 : Nat) ^ 3 = 9261 := by decide
    omega
  intro r
  induction r with
  | zero =>
    intro I2 hr f2 t2 r2
    refine v239_120 (pj_D_le 6) I2 J1 _ _ _ _ _ _ _ _ _ (br_t (by decide) ?_)
    obtain ⟨-, -, l1, k1, -⟩ := InvM_q hA f2 hj hI
    refine s204 (by decide) (v := 1) (w := 0) (by decide) (by decide) (by decide) k1.1 (tld_le _).2 (fun I3 hc => kV_i ?_)
    have mf := hc.2.2.2.2.2.2.2.2.2.2
    refine chs k 0 A.L I3 J1 (by omega) (pj_fr_tr f2 (mcp_q hc)) hj (fun t ht => (mf _ _ (mS_f (by omega))).trans (t2 t ht)) (fun i hi => (mf _ _ (mS_f (by omega))).trans (r2 i (Nat.zero_le _) hi)) (LM_cp h8 h7 hc l1) hA.2.2.2.1 ?_
    rw [eN, ew]
  | succ r ih =>
    intro I2 hr f2 t2 r2
    have Np : 0 < N := by
      rcases Nat.eq_zero_or_pos N with z | z
      · rw [z] at hw
        obtain ⟨k', rfl⟩ : ∃ k', k = k' + 1 := ⟨k - 1, by omega⟩
        rw [Nat.pow_succ, Nat.mul_zero] at hw
        exact absurd hw (Nat.not_lt_zero _)
      · exact z
    have dl := Nat.div_le_self w (N ^ (k - (r + 1)))
    have td := Nat.mod_lt (w / N ^ (k - (r + 1))) Np
    have es : nI (r + 1) - 1 = nI r := su_1 (Nat.succ_pos r)
    have er : nI r + -1 = nI r - 1 := (Int32.sub_eq_add_neg (nI r) 1).symm
    rw [es]
    refine v239_120 (pj_D_le 6) I2 J1 _ _ _ _ _ _ _ _ _ (br_f (nI_nlt (a := r) (b := 0) (Nat.zero_le _) (by omega)) ?_)
    have N0 : ¬ nI N = 0 := fun z => by
      have := (nI_eq (b := 0) (by omega) (by decide)).mp z
      omega
    rw [pk_rem (by omega) Np (by omega), pk_div (by omega) Np (by omega), nI_clamp (n := r) (by omega), nI_clamp (n := w / N ^ (k - (r + 1)) % N) (by omega), t2 _ (by rw [← eN]; exact td), er]
    refine ⟨N0, pk_in (w / N ^ (k - (r + 1)) % N) 21 (by omega), pk_in r 3 (by omega), N0, ?_⟩
    have ed : w / N ^ (k - (r + 1)) / N = w / N ^ (k - r) := by
      rw [Nat.div_div_eq_div_mul, ← Nat.pow_succ, show (k - (r + 1)).succ = k - r by omega]
    rw [ed]
    refine ih _ (by omega) (pj_fr_tr f2 (fun c j hc => pj_u_n (fun z => by rw [z] at hc; exact absurd hc (by rw [qM_t (by omega)]; decide)))) (fun t ht => (pj_u_n (by decide)).trans (t2 t ht)) (fun i h1 h2 => ?_)
    by_cases e : i = r
    · rw [e, pj_u_e, show k - 1 - r = k - (r + 1) by omega]
    · rw [pj_u_j e]
      exact r2 i (by omega) h2
/-- PegCoatsModel.passes -/
theorem m239 (hh : 7 ≤ h) {p r s : Int32} (hA : AV A) (hI : InvM A I J) (q : ∀ I' J', pj_fr qM I I' → pj_fr sS J J' → Q (some (.int (passesV A p r s))) (zc n, I', J')) : pj_D h 239 [.ref 276, .int p, .int r, .int s] (zc n, I, J) Q := by
  have h7 := hA.2.2.1
  have h8 := hA.2.1
  have oB := off_b h7
  obtain ⟨B, b1, b2⟩ := hI.2.1
  have hB2 := b2.1.2.2.1
  unfold passesV at q
  refine pj_ent (g := 6) hh (t := mt_239) rfl rfl (v239_0 (pj_D_le 6) I J _ _ _ ?_)
  refine s234 (by decide) b1 b2.1 hI.2.2.1 (fun m hm e ht => kI_i ⟨fun z => absurd z (by decide), fun _ => ?_⟩) (fun z => kI_i ⟨fun _ => ?_, fun z => absurd rfl z⟩)
  rotate_left
  · rw [tix_n h7 z] at q
    exact q I J pj_fr_rf pj_fr_rf
  subst e
  rw [tix_s h7 hm ht] at q
  simp only at q
  refine s211 (by decide) b1 hB2 b2.1.2.2.2.1 h8 (fun c hc e => kI_i ⟨fun _ => ?_, fun z => absurd z (by decide)⟩) (fun z => kI_i ⟨fun z => absurd rfl z, fun _ => ?_⟩)
  rotate_left
  · rw [ix_n (by omega) z] at q
    exact q I J pj_fr_rf pj_fr_rf
  subst e
  rw [ix_s hc (by omega)] at q
  simp only at q
  have bb : ∀ {I' : Nat → Nat → Int32}, pj_fr qM I I' → I' 276 13 = nI B ∧ I' 281 B = nI A.W.nm := fun hf => ⟨(hf _ _ (qM_f (by omega))).trans b1, (hf _ _ (qM_f (by omega))).trans b2.1.2.2.2.2.1⟩
  have eB : (nI B).toNatClampNeg = B := nI_clamp (n := B) (by omega)
  have iB := pk_in (x := nI B) B 2 hB2
  -- the sizes
  have siz : ∀ r k I' J', r + k = 4 → pj_fr qM I I' → pj_fr sS J J' → PT A.W.nm I' → psF A.W m c A.L 4 0 = psF A.W m c A.L r k → pj_R (pj_D 6) ta mc_239 false Q 94 [some (.ref 276), some (.int (nI m)), some (.int (nI c)), some (.int s), some (.int (nI (off A.W.nm A.W.nm))), some (.int (nI (off A.W.nm A.W.nm ^ k))), some (.int (nI k)), none, none, none, none] [] (zc n) I' J' 0 0 := by
    intro r
    induction r with
    | zero =>
      intro k I' J' hk f1 j1 t1 ep
      obtain rfl : k = 4 := by omega
      have q := q I' J' f1 j1
      have ep : psF A.W m c A.L 4 0 = none := ep
      rw [ep] at q
      exact v239_94 (pj_D_le 6) I' J' _ _ _ _ _ _ (br_t (by decide) q)
    | succ r ih =>
      intro k I' J' hk f1 j1 t1 ep
      have ep : psF A.W m c A.L 4 0 = match seqF A.W m c k A.L with | some x => some x | none => psF A.W m c A.L r (k + 1) := ep
      have Mb : off A.W.nm A.W.nm ^ k ≤ 9261 := Nat.le_trans (Nat.pow_le_pow_left oB k) (Nat.le_trans (Nat.pow_le_pow_right (by decide) (show k ≤ 3 by omega)) (by decide))
      refine v239_94 (pj_D_le 6) I' J' _ _ _ _ _ _ (br_f (nI_nlt (a := 3) (by omega) (by omega)) ?_)
      suffices wys : ∀ u w I' J', u + w = off A.W.nm A.W.nm ^ k → pj_fr qM I I' → pj_fr sS J J' → PT A.W.nm I' → firstT (okW A.W m c k A.L) (off A.W.nm A.W.nm ^ k) 0 = firstT (okW A.W m c k A.L) u w → r103 Q n (nI m) (nI c) s (nI (off A.W.nm A.W.nm)) (nI (off A.W.nm A.W.nm ^ k)) (nI k) (nI w) I' J' from wys _ 0 I' J' rfl f1 j1 t1 rfl
      intro u
      induction u with
      | zero =>
        intro w I' J' hw f1 j1 t1 ef
        obtain rfl : w = off A.W.nm A.W.nm ^ k := by omega
        refine v239_103 (pj_D_le 6) I' J' _ _ _ _ _ _ _ (br_t (nI_le (Nat.le_refl _) (by omega)) ?_)
        rw [pk_mul, ← Nat.pow_succ, nI_1 k]
        refine ih (k + 1) I' J' (by omega) f1 j1 t1 ?_
        rw [okW_f] at ef
        have ef : seqF A.W m c k A.L = none := ef
        rw [ef] at ep
        exact ep
      | succ u ihu =>
        intro w I' J' hw f1 j1 t1 ef
        rw [firstT_s] at ef
        refine v239_103 (pj_D_le 6) I' J' _ _ _ _ _ _ _ (br_f (nI_ge (by omega) (by omega)) ?_)
        refine way hA hI hm hc rfl (by omega) (by omega) f1 j1 t1 (fun e0 I2 J2 f2 j2 t2 => ihu (w + 1) I2 J2 (by omega) f2 j2 t2 ?_) (fun x e0 I2 J2 f2 j2 => ?_)
        · rw [e0] at ef; exact ef
        · rw [e0] at ef
          rw [okW_f] at ef
          have ef : seqF A.W m c k A.L = some x := ef
          rw [ef] at ep
          have ep : psF A.W m c A.L 4 0 = some x := ep
          have q := q I2 J2 f2 j2
          rw [ep] at q
          have q : Q (some (.int (if s = -1 then nI x.length else match ix x.length s with | none => -1 | some k => nI (x.getD k 0)))) (zc n, I2, J2) := q
          rw [seqF_len ef] at q
          exact q
  -- the pairs
  have PTu : ∀ {I' : Nat → Nat → Int32} {a b : Nat}, a < b → b < A.W.nm → (∀ t, t < off A.W.nm a + (b - a - 1) → I' 312 t = nI (pcd A.W.nm t)) → ∀ t, t < off A.W.nm a + (b - a - 1) + 1 → pj_u I' 312 (off A.W.nm a + (b - a - 1)) (nI (8 * a + b)) 312 t = nI (pcd A.W.nm t) := fun {I' a b} h1 h2 ht t hl => by
    by_cases e : t = off A.W.nm a + (b - a - 1)
    · rw [e, pj_u_e, pcd_e h1 h2]
    · rw [pj_u_j e]; exact ht t (by omega)
  have inner : ∀ a, a < A.W.nm → (∀ I', pj_fr qM I I' → (∀ t, t < off A.W.nm (a + 1) → I' 312 t = nI (pcd A.W.nm t)) → pj_R (pj_D 6) ta mc_239 false Q 24 [some (.ref 276), some (.int (nI m)), some (.int (nI c)), some (.int s), some (.int (nI (off A.W.nm (a + 1)))), some (.int (nI (a + 1))), none, none, none, none, none] [] (zc n) I' J 0 0) → ∀ u b I', u + b = A.W.nm → a < b → pj_fr qM I I' → (∀ t, t < off A.W.nm a + (b - a - 1) → I' 312 t = nI (pcd A.W.nm t)) → pj_R (pj_D 6) ta mc_239 false Q 44 [some (.ref 276), some (.int (nI m)), some (.int (nI c)), some (.int s), some (.int (nI (off A.W.nm a + (b - a - 1)))), some (.int (nI a)), some (.int (nI b)), none, none, none, none] [] (zc n) I' J 0 0 := by
    intro a ha nxa u
    induction u with
    | zero =>
      intro b I' hb hab hf ht
      obtain rfl : b = A.W.nm := by omega
      refine v239_44 (pj_D_le 6) I' J _ _ _ _ _ _ ?_
      rw [(bb hf).1, eB, (bb hf).2, nI_1 a]
      have e : off A.W.nm (a + 1) = off A.W.nm a + (A.W.nm - a - 1) := by show off A.W.nm a + (A.W.nm - (a + 1)) = _; omega
      rw [e] at nxa
      exact ⟨iB, br_t (nI_le (Nat.le_refl _) (by omega)) (nxa I' hf ht)⟩
    | succ u ih =>
      intro b I' hb hab hf ht
      have hbm : b < A.W.nm := by omega
      have tl := off_lt hab hbm
      refine v239_44 (pj_D_le 6) I' J _ _ _ _ _ _ ?_
      have e8 : (8 : Int32) * nI a + nI b = nI (8 * a + b) := li_8 a b
      rw [(bb hf).1, eB, (bb hf).2, nI_1 b, nI_1 (off A.W.nm a + (b - a - 1)), e8, nI_clamp (n := off A.W.nm a + (b - a - 1)) (by omega)]
      refine ⟨iB, br_f (nI_ge hbm (by omega)) ⟨pk_in (off A.W.nm a + (b - a - 1)) 21 (by omega), ?_⟩⟩
      have nx := ih (b + 1) (pj_u I' 312 (off A.W.nm a + (b - a - 1)) (nI (8 * a + b))) (by omega) (by omega) (pj_fr_tr hf (fun c j hc => pj_u_n (fun z => by rw [z] at hc; exact absurd hc (by rw [qM_t (by omega)]; decide))))
      rw [show b + 1 - a - 1 = b - a - 1 + 1 by omega, ← Nat.add_assoc] at nx
      exact nx (PTu hab hbm ht)
  suffices outer : ∀ u a I', u + a = A.W.nm → pj_fr qM I I' → (∀ t, t < off A.W.nm a → I' 312 t = nI (pcd A.W.nm t)) → pj_R (pj_D 6) ta mc_239 false Q 24 [some (.ref 276), some (.int (nI m)), some (.int (nI c)), some (.int s), some (.int (nI (off A.W.nm a))), some (.int (nI a)), none, none, none, none, none] [] (zc n) I' J 0 0 from outer A.W.nm 0 I (by omega) pj_fr_rf (fun t ht => absurd ht (Nat.not_lt_zero _))
  intro u
  induction u with
  | zero =>
    intro a I' ha hf ht
    obtain rfl : a = A.W.nm := by omega
    refine v239_24 (pj_D_le 6) I' J _ _ _ _ _ ?_
    rw [(bb hf).1, eB, (bb hf).2]
    refine ⟨iB, br_t (nI_le (Nat.le_refl _) (by omega)) ?_⟩
    exact siz 4 0 I' J rfl hf pj_fr_rf ht rfl
  | succ u ih =>
    intro a I' ha hf ht
    refine v239_24 (pj_D_le 6) I' J _ _ _ _ _ ?_
    rw [(bb hf).1, eB, (bb hf).2, nI_1 a]
    refine ⟨iB, br_f (nI_ge (by omega) (by omega)) ?_⟩
    have t := inner a (by omega) (fun I2 f2 t2 => ih (a + 1) I2 (by omega) f2 t2) (A.W.nm - (a + 1)) (a + 1) I' (by omega) (by omega) hf
    rw [show a + 1 - a - 1 = 0 by omega, Nat.add_zero] at t
    exact t ht
end PPy
