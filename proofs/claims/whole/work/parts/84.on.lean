/-! on: the class -/
def onL (W : Wk) (f : Nat → Nat) : Ly := (256 * f 0 + f 1, (fun k => f (3 + 2 * k)), (fun k => decide (f (2 + 2 * k) = 1)), (fun k => f (2 + 2 * W.nc + 6 * k)), (fun k => f (2 + 2 * W.nc + 6 * k + 1)), (fun k => if f (2 + 2 * W.nc + 6 * k + 2) = 255 then none else some (f (2 + 2 * W.nc + 6 * k + 2))), (fun k => 256 * f (2 + 2 * W.nc + 6 * k + 3) + f (2 + 2 * W.nc + 6 * k + 4)), (fun k => decide (f (2 + 2 * W.nc + 6 * k + 5) = 1)))
def oc (f : Nat → Nat) (k : Nat) : Prop := f (2 + 2 * k) ≤ 1 ∧ f (3 + 2 * k) ≤ 99
def om (W : Wk) (f : Nat → Nat) (k : Nat) : Prop := (1 ≤ (onL W f).siz k ∧ (onL W f).siz k ≤ 99 ∧ (onL W f).age k ≤ 99 ∧ (onL W f).pur k ≤ 9999) ∧ f (2 + 2 * W.nc + 6 * k + 5) ≤ 1 ∧ ∀ c, (onL W f).wor k = some c → c < W.nc ∧ (onL W f).bur c = false ∧ (onL W f).the k = true
def od (W : Wk) (f : Nat → Nat) (k : Nat) : Prop := ∀ j c, j < k → (onL W f).wor j = some c → (onL W f).wor k ≠ some c
def onOK (W : Wk) (m : Nat) (f : Nat → Nat) : Prop := m = 2 + 2 * W.nc + 6 * W.nm + 1 ∧ f (m - 1) = chk f (m - 1) ∧ (onL W f).yr ≤ 999 ∧ (∀ k, k < W.nc → oc f k) ∧ (∀ k, k < W.nm → om W f k) ∧ ∀ k, k < W.nm → od W f k
theorem onOK_LV {W : Wk} {m : Nat} {f : Nat → Nat} (h : onOK W m f) : LV W (onL W f) := by
  obtain ⟨-, -, h3, h4, h5, h6⟩ := h
  refine ⟨h3, fun k hk => (h4 k hk).2, fun k hk => (h5 k hk).1, fun k c hk e => (h5 k hk).2.2 c e, fun j k c hj hk a b => ?_⟩
  rcases Nat.lt_trichotomy j k with z | z | z
  · exact absurd b (h6 k hk j c z a)
  · exact z
  · exact absurd a (h6 j hj k c z b)
theorem or8 {a b : Nat} (ha : a < 256) (hb : b < 256) : (nI a <<< ((8 : Int32) &&& 31)) ||| nI b = nI (256 * a + b) := by
  rw [pk_shlN ((8 : Int32) &&& 31) 8 (by decide) (by omega), nb_or]
  have := Nat.two_pow_add_eq_or_of_lt (i := 8) (b := b) (by omega) a
  rw [Nat.mul_comm a, ← this]
section POn
variable {n h : Nat} {Q : pj_K} {I : Nat → Nat → Int32} {J : Nat → Nat → Int64} {W : Wk} {m : Nat} {f : Nat → Nat}
def aC : Nat → Nat → Bool := fun c _ => Nat.ble 43 c && Nat.ble c 50
theorem aC_f {c j : Nat} (h : c < 43 ∨ 50 < c) : aC c j = false := rg_l h
theorem aC_t {c j : Nat} (h1 : 43 ≤ c) (h2 : c ≤ 50) : aC c j = true := by
  unfold aC
  rw [Nat.ble_eq_true_of_le h1, Nat.ble_eq_true_of_le h2]; rfl
theorem TC_a {I' : Nat → Nat → Int32} (hf : pj_fr aC I I') (h : TC m f I) : TC m f I' :=
  ⟨h.1, (hf _ _ (aC_f (by omega))).trans h.2.1, fun k hk => ⟨(hf _ _ (aC_f (by omega))).trans (h.2.2 k hk).1, (h.2.2 k hk).2⟩⟩
/-- Picture.readsCoat -/
theorem s33 (hh : 2 ≤ h) {k : Nat} (hT : TC m f I) (hk : k < 8) (hm : 3 + 2 * k < m) (q1 : oc f k → ∀ I', pj_fr aC I I' → (∀ c j, (c ≠ 44 ∧ c ≠ 45) ∨ j ≠ k → I' c j = I c j) → I' 44 k = nI (f (3 + 2 * k)) → I' 45 k = bi (decide (f (2 + 2 * k) = 1)) → Q (some (.int 1)) (zc n, I', J)) (q0 : ¬ oc f k → ∀ I', pj_fr aC I I' → Q (some (.int 0)) (zc n, I', J)) : pj_D h 33 [.ref 43, .ref 3, .int (nI k), .int (nI (2 + 2 * k))] (zc n, I, J) Q := by
  have h16 := hT.1
  refine pj_ent (g := 1) hh (t := mt_33) rfl rfl (v33_0 (pj_D_le 1) I J _ _ ?_)
  have b2 := (hT.2.2 (2 + 2 * k) (by omega)).2
  have b3 := (hT.2.2 (3 + 2 * k) (by omega)).2
  have i8 := pk_in (x := nI k) k 8 hk
  have e3 : nI (2 + 2 * k) + 1 = nI (3 + 2 * k) := (nI_1 _).trans (congrArg nI (by omega))
  rw [e3, nI_clamp (n := k) (by omega)]
  refine s85t (Nat.le_refl 1) hT (by omega) (kI_i ?_)
  have go : ∀ b : Int32, b = bi (decide (f (2 + 2 * k) = 1)) → pj_D 1 85 [.ref 3, .int (nI (3 + 2 * k))] (zc n, pj_u I 45 k b, J) (kI n fun v2 I2 J2 => (vp_in (nI k) 8 ∧ pj_D 1 85 [.ref 3, .int (nI (2 + 2 * k))] (zc n, (pj_u I2 44 k v2), J2) (kI n fun v3 I3 J3 => ((1 < v3 → Q (some (.int 0)) (zc n, I3, J3)) ∧ (¬ 1 < v3 → (vp_in (nI k) 8 ∧ ((99 < (I3 44 k) → Q (some (.int 0)) (zc n, I3, J3)) ∧ (¬ 99 < (I3 44 k) → Q (some (.int 1)) (zc n, I3, J3))))))))) := by
    intro b hb
    have f1 : pj_fr aC I (pj_u I 45 k b) := pj_fr_u pj_fr_rf (aC_t (by decide) (by decide))
    refine s85t (Nat.le_refl 1) (TC_a f1 hT) (by omega) (kI_i ⟨i8, ?_⟩)
    have f2 : pj_fr aC I (pj_u (pj_u I 45 k b) 44 k (nI (f (3 + 2 * k)))) := pj_fr_u f1 (aC_t (by decide) (by decide))
    refine s85t (Nat.le_refl 1) (TC_a f2 hT) (by omega) (kI_i ?_)
    rw [pj_u_e]
    refine pk_lt 1 (f (2 + 2 * k)) (fun c => q0 (fun z => by have := z.1; omega) _ f2) (fun c => ⟨i8, pk_lt 99 (f (3 + 2 * k)) (fun c2 => q0 (fun z => by have := z.2; omega) _ f2) (fun c2 => q1 ⟨c, c2⟩ _ f2 (fun c' j hcj => ?_) pj_u_e ?_)⟩)
    · rcases hcj with z | z
      · exact (pj_u_n z.1).trans (pj_u_n z.2)
      · exact (pj_u_j z).trans (pj_u_j z)
    · rw [pj_u_n (by decide), pj_u_e]; exact hb
  by_cases c : f (2 + 2 * k) = 1
  · have c' : nI (f (2 + 2 * k)) = 1 := by rw [c]; rfl
    exact ⟨fun z => absurd c' z, fun _ => ⟨i8, go _ (by rw [decide_eq_true c]; decide)⟩⟩
  · have c' : ¬ nI (f (2 + 2 * k)) = 1 := fun z => c ((nI_eq (b := 1) (by omega) (by decide)).mp z)
    exact ⟨fun _ => ⟨i8, go _ (by rw [decide_eq_false c]; decide)⟩, fun z => absurd z c'⟩
/-- what a man's bytes leave in the scene -/
def mset (W : Wk) (f : Nat → Nat) (k : Nat) (I' : Nat → Nat → Int32) : Prop := I' 46 k = nI ((onL W f).siz k) ∧ I' 47 k = nI ((onL W f).age k) ∧ I' 48 k = wo ((onL W f).wor k) ∧ I' 49 k = nI ((onL W f).pur k) ∧ I' 50 k = bi ((onL W f).the k)
/-- Picture.readsMan -/
theorem s34 (hh : 2 ≤ h) {k : Nat} (hT : TC m f I) (hW : WC W 5 I) (hb : ∀ j, j < W.nc → I 45 j = bi ((onL W f).bur j)) (hk : k < W.nm) (hm : 2 + 2 * W.nc + 6 * k + 5 < m) (q1 : om W f k → ∀ I', pj_fr aC I I' → (∀ c j, (c < 46 ∨ 50 < c) ∨ j ≠ k → I' c j = I c j) → mset W f k I' → Q (some (.int 1)) (zc n, I', J)) (q0 : ¬ om W f k → ∀ I', pj_fr aC I I' → Q (some (.int 0)) (zc n, I', J)) : pj_D h 34 [.ref 272, .ref 43, .ref 3, .int (nI k), .int (nI (2 + 2 * W.nc + 6 * k))] (zc n, I, J) Q := by
  have h16 := hT.1
  obtain ⟨w1, w2, w3, w4, w5⟩ := hW
  have g := fun i (hi : i ≤ 5) => (hT.2.2 (2 + 2 * W.nc + 6 * k + i) (by omega)).2
  have g0 := g 0 (by decide)
  have g1 := g 1 (by decide)
  have g2 := g 2 (by decide)
  have g3 := g 3 (by decide)
  have g4 := g 4 (by decide)
  have g5 := g 5 (by decide)
  rw [Nat.add_zero] at g0
  have i7 := pk_in (x := nI k) k 7 (by omega)
  have ek : (nI k).toNatClampNeg = k := nI_clamp (by omega)
  have ad : ∀ i : Nat, nI (2 + 2 * W.nc + 6 * k) + nI i = nI (2 + 2 * W.nc + 6 * k + i) := fun i => nI_add _ i
  refine pj_ent (g := 1) hh (t := mt_34) rfl rfl (w34_0 (pj_D_le 1) I J _ _ ?_)
  rw [ek]
  show pj_D 1 85 [.ref 3, .int (nI (2 + 2 * W.nc + 6 * k) + nI 2)] _ _
  rw [ad 2]
  refine s85t (Nat.le_refl 1) hT (by omega) (kI_i (s85t (Nat.le_refl 1) hT (by omega) (kI_i ⟨i7, ?_⟩)))
  have f1 : pj_fr aC I (pj_u I 46 k (nI (f (2 + 2 * W.nc + 6 * k)))) := pj_fr_u pj_fr_rf (aC_t (by decide) (by decide))
  refine w34_22 (pj_D_le 1) _ J _ _ _ ?_
  rw [ek]
  show pj_D 1 85 [.ref 3, .int (nI (2 + 2 * W.nc + 6 * k) + nI 1)] _ _
  rw [ad 1]
  refine s85t (Nat.le_refl 1) (TC_a f1 hT) (by omega) (kI_i ⟨i7, ?_⟩)
  have ew : nI (f (2 + 2 * W.nc + 6 * k + 2)) = 255 ↔ f (2 + 2 * W.nc + 6 * k + 2) = 255 := nI_eq (b := 255) (by omega) (by decide)
  have rest : ∀ x : Int32, x = wo ((onL W f).wor k) → pj_R (pj_D 1) ta mc_34 true Q 56 [some (.ref 272), some (.ref 43), some (.ref 3), some (.int (nI k)), some (.int (nI (2 + 2 * W.nc + 6 * k))), some (.int (nI (f (2 + 2 * W.nc + 6 * k + 2))))] [] (zc n) (pj_u (pj_u (pj_u I 46 k (nI (f (2 + 2 * W.nc + 6 * k)))) 47 k (nI (f (2 + 2 * W.nc + 6 * k + 1)))) 48 k x) J 0 0 := by
    intro x hx
    have f2 : pj_fr aC I (pj_u (pj_u (pj_u I 46 k (nI (f (2 + 2 * W.nc + 6 * k)))) 47 k (nI (f (2 + 2 * W.nc + 6 * k + 1)))) 48 k x) := pj_fr_u (pj_fr_u f1 (aC_t (by decide) (by decide))) (aC_t (by decide) (by decide))
    refine w34_56 (pj_D_le 1) _ J _ _ _ ?_
    rw [ek]
    show pj_D 1 85 [.ref 3, .int (nI (2 + 2 * W.nc + 6 * k) + nI 3)] _ (kI n fun v1 I1 J1 => pj_D 1 85 [.ref 3, .int (nI (2 + 2 * W.nc + 6 * k) + nI 4)] _ _)
    rw [ad 3, ad 4]
    refine s85t (Nat.le_refl 1) (TC_a f2 hT) (by omega) (kI_i (s85t (Nat.le_refl 1) (TC_a f2 hT) (by omega) (kI_i ⟨i7, ?_⟩)))
    rw [or8 (by omega) (by omega)]
    have f3 := pj_fr_u (v := nI (256 * f (2 + 2 * W.nc + 6 * k + 3) + f (2 + 2 * W.nc + 6 * k + 4))) (k := k) f2 (aC_t (c := 49) (by decide) (by decide))
    refine w34_82 (pj_D_le 1) _ J _ _ _ ?_
    rw [ek]
    show pj_D 1 85 [.ref 3, .int (nI (2 + 2 * W.nc + 6 * k) + nI 5)] _ _
    rw [ad 5]
    refine s85t (Nat.le_refl 1) (TC_a f3 hT) (by omega) (kI_i ?_)
    have last : ∀ y : Int32, y = bi ((onL W f).the k) → pj_R (pj_D 1) ta mc_34 true Q 105 [some (.ref 272), some (.ref 43), some (.ref 3), some (.int (nI k)), some (.int (nI (2 + 2 * W.nc + 6 * k))), some (.int (nI (f (2 + 2 * W.nc + 6 * k + 2))))] [] (zc n) (pj_u (pj_u (pj_u (pj_u (pj_u I 46 k (nI (f (2 + 2 * W.nc + 6 * k)))) 47 k (nI (f (2 + 2 * W.nc + 6 * k + 1)))) 48 k x) 49 k (nI (256 * f (2 + 2 * W.nc + 6 * k + 3) + f (2 + 2 * W.nc + 6 * k + 4)))) 50 k y) J 0 0 := by
      intro y hy
      have f4 := pj_fr_u (v := y) (k := k) f3 (aC_t (c := 50) (by decide) (by decide))
      generalize hX : pj_u (pj_u (pj_u (pj_u (pj_u I 46 k (nI (f (2 + 2 * W.nc + 6 * k)))) 47 k (nI (f (2 + 2 * W.nc + 6 * k + 1)))) 48 k x) 49 k (nI (256 * f (2 + 2 * W.nc + 6 * k + 3) + f (2 + 2 * W.nc + 6 * k + 4)))) 50 k y = X at f4
      have x46 : X 46 k = nI ((onL W f).siz k) := by rw [← hX, pj_u_n (by decide), pj_u_n (by decide), pj_u_n (by decide), pj_u_n (by decide), pj_u_e]; rfl
      have x47 : X 47 k = nI ((onL W f).age k) := by rw [← hX, pj_u_n (by decide), pj_u_n (by decide), pj_u_n (by decide), pj_u_e]; rfl
      have x48 : X 48 k = wo ((onL W f).wor k) := by rw [← hX, pj_u_n (by decide), pj_u_n (by decide), pj_u_e]; exact hx
      have x49 : X 49 k = nI ((onL W f).pur k) := by rw [← hX, pj_u_n (by decide), pj_u_e]; rfl
      have x50 : X 50 k = bi ((onL W f).the k) := by rw [← hX, pj_u_e]; exact hy
      have xo : ∀ c j, (c < 46 ∨ 50 < c) ∨ j ≠ k → X c j = I c j := fun c j hcj => by
        rw [← hX]
        rcases hcj with z | z
        · exact (pj_u_n (by omega)).trans ((pj_u_n (by omega)).trans ((pj_u_n (by omega)).trans ((pj_u_n (by omega)).trans (pj_u_n (by omega)))))
        · exact (pj_u_j z).trans ((pj_u_j z).trans ((pj_u_j z).trans ((pj_u_j z).trans (pj_u_j z))))
      have no : ¬ om W f k → Q (some (.int 0)) (zc n, X, J) := fun z => q0 z X f4
      have s9 : (onL W f).siz k < 256 := g0
      have a9 : (onL W f).age k < 256 := g1
      have p9 : (onL W f).pur k < 65536 := by show 256 * f (2 + 2 * W.nc + 6 * k + 3) + f (2 + 2 * W.nc + 6 * k + 4) < 65536; omega
      refine w34_105 (pj_D_le 1) X J _ _ _ ?_
      rw [ek, x46]
      refine ⟨i7, pk_lt ((onL W f).siz k) 1 (fun c => w34_137 (pj_D_le 1) X J (no (fun z => by have := z.1.1; omega))) (fun c => ⟨i7, pk_lt 99 ((onL W f).siz k) (fun c => w34_137 (pj_D_le 1) X J (no (fun z => by have := z.1.2.1; omega))) (fun c2 => ?_)⟩)⟩
      refine w34_126 (pj_D_le 1) X J _ _ _ ?_
      rw [ek, x47, x49]
      refine ⟨i7, pk_le ((onL W f).age k) 99 (fun c3 => ⟨i7, pk_lt 9999 ((onL W f).pur k) (fun c => w34_163 (pj_D_le 1) X J (no (fun z => by have := z.1.2.2.2; omega))) (fun c4 => ?_)⟩) (fun c => w34_137 (pj_D_le 1) X J (no (fun z => by have := z.1.2.2.1; omega)))⟩
      refine w34_151 (pj_D_le 1) X J _ _ _ ?_
      show pj_D 1 85 [.ref 3, .int (nI (2 + 2 * W.nc + 6 * k) + nI 5)] _ _
      rw [ad 5]
      refine s85t (Nat.le_refl 1) (TC_a f4 hT) (by omega) (kI_i (pk_le (f (2 + 2 * W.nc + 6 * k + 5)) 1 (fun c5 => ?_) (fun c => w34_163 (pj_D_le 1) X J (no (fun z => by have := z.2.1; omega)))))
      rw [ew]
      have ewr : (onL W f).wor k = if f (2 + 2 * W.nc + 6 * k + 2) = 255 then none else some (f (2 + 2 * W.nc + 6 * k + 2)) := rfl
      refine ⟨fun d => w34_204 (pj_D_le 1) X J (q1 ⟨⟨c, c2, c3, c4⟩, c5, fun c e => by rw [ewr, if_pos d] at e; cases e⟩ X f4 xo ⟨x46, x47, x48, x49, x50⟩), fun d => ?_⟩
      rw [if_neg d] at ewr
      refine w34_173 (pj_D_le 1) X J _ _ ?_
      rw [(xo 5 12 (by omega)), w3]
      refine pk_le W.nc (f (2 + 2 * W.nc + 6 * k + 2)) (fun e => w34_208 (pj_D_le 1) X J (no (fun z => by have := (z.2.2 _ ewr).1; omega))) (fun e => ⟨pk_in (f (2 + 2 * W.nc + 6 * k + 2)) 8 (by omega), ?_⟩)
      rw [nI_clamp (n := f (2 + 2 * W.nc + 6 * k + 2)) (by omega), xo 45 _ (by omega), hb _ e, ek, x50]
      cases e1 : (onL W f).bur (f (2 + 2 * W.nc + 6 * k + 2)) with
      | true => exact ⟨fun _ => w34_208 (pj_D_le 1) X J (no (fun z => by have := (z.2.2 _ ewr).2.1; rw [e1] at this; cases this)), fun z => absurd z (by decide)⟩
      | false =>
        refine ⟨fun z => absurd rfl z, fun _ => ⟨i7, ?_⟩⟩
        cases e2 : (onL W f).the k with
        | false => exact ⟨fun _ => w34_208 (pj_D_le 1) X J (no (fun z => by have := (z.2.2 _ ewr).2.2; rw [e2] at this; cases this)), fun z => absurd rfl z⟩
        | true => exact ⟨fun z => absurd z (by decide), fun _ => w34_204 (pj_D_le 1) X J (q1 ⟨⟨c, c2, c3, c4⟩, c5, fun c' e' => by rw [ewr] at e'; cases e'; exact ⟨e, e1, e2⟩⟩ X f4 xo ⟨x46, x47, x48, x49, x50⟩)⟩
    by_cases c : f (2 + 2 * W.nc + 6 * k + 5) = 1
    · have c' : nI (f (2 + 2 * W.nc + 6 * k + 5)) = 1 := by rw [c]; rfl
      exact ⟨fun z => absurd c' z, fun _ => ⟨i7, last _ (by show _ = bi (decide _); rw [decide_eq_true c]; decide)⟩⟩
    · have c' : ¬ nI (f (2 + 2 * W.nc + 6 * k + 5)) = 1 := fun z => c ((nI_eq (b := 1) (by omega) (by decide)).mp z)
      exact ⟨fun _ => ⟨i7, last _ (by show _ = bi (decide _); rw [decide_eq_false c]; decide)⟩, fun z => absurd z c'⟩
  rw [ew]
  refine ⟨fun d => ⟨i7, rest _ ?_⟩, fun d => ⟨i7, rest _ ?_⟩⟩
  · show _ = wo (if _ then none else some _)
    rw [if_neg d]; rfl
  · show _ = wo (if _ then none else some _)
    rw [if_pos d]; rfl
end POn
