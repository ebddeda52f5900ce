/-! a man puts a coat on, or none -/
def Ly.dress (L : Ly) (m : Nat) (o : Option Nat) : Ly := (L.yr, (fun k => if o = some k then (if L.lin k < 99 then L.lin k + 1 else L.lin k) else L.lin k), L.bur, L.siz, L.age, (fun k => if k = m then o else L.wor k), L.pur, L.the)
theorem dress_lin {L : Ly} {m k : Nat} {o : Option Nat} : (L.dress m o).lin k = if o = some k then (if L.lin k < 99 then L.lin k + 1 else L.lin k) else L.lin k := rfl
theorem dress_wor {L : Ly} {m k : Nat} {o : Option Nat} : (L.dress m o).wor k = if k = m then o else L.wor k := rfl
section PDr
variable {n h : Nat} {Q : pj_K} {I : Nat → Nat → Int32} {J : Nat → Nat → Int64} {W : Wk} {L : Ly} {B : Nat}
/-- PegCoats.isThere, PegCoatsModel.isHere -/
theorem s131 (hh : 2 ≤ h) {p : Int32} (hW : WC W 5 I) (hL : LC W 35 L I) (q1 : ∀ k, k < W.nm → p = nI k → L.the k = true → Q (some (.int 1)) (zc n, I, J)) (q2 : (∀ k, k < W.nm → L.the k = true → p ≠ nI k) → Q (some (.int 0)) (zc n, I, J)) : pj_D h 131 [.ref 2, .int p] (zc n, I, J) Q := by
  obtain ⟨w1, w2, w3, w4, w5⟩ := hW
  refine pj_ent (g := 1) hh (t := mt_131) rfl rfl (v131_0 (pj_D_le 1) I J _ ?_)
  refine s122 (Nat.le_refl 1) w4 w2 (fun k hk e => kI_i ⟨fun z => absurd z (by decide), fun _ => ?_⟩) (fun z => kI_i ⟨fun _ => q2 (fun k hk _ => z k hk), fun z => absurd rfl z⟩)
  subst e
  refine ⟨pk_in k 7 (by omega), ?_⟩
  rw [nI_clamp (by omega), (hL.2.2 k hk).2.2.2.2]
  cases e : L.the k with
  | true => exact ⟨fun z => absurd z (by decide), fun _ => q1 k hk rfl e⟩
  | false =>
    refine ⟨fun _ => q2 (fun j hj ht ej => ?_), fun z => absurd rfl z⟩
    have := (nI_eq (by omega) (by omega)).mp ej
    rw [← this, e] at ht
    cases ht
theorem s234 (hh : 3 ≤ h) {p : Int32} (hB : I 276 13 = nI B) (hW : WM W B I) (hL : LM W 0 L I) (q1 : ∀ k, k < W.nm → p = nI k → L.the k = true → Q (some (.int 1)) (zc n, I, J)) (q2 : (∀ k, k < W.nm → L.the k = true → p ≠ nI k) → Q (some (.int 0)) (zc n, I, J)) : pj_D h 234 [.ref 276, .int p] (zc n, I, J) Q := by
  obtain ⟨w1, w2, w0, w3, w4, w5⟩ := hW
  obtain ⟨G, g2, g3, g4⟩ := hL.2.2.1
  refine pj_ent (g := 2) hh (t := mt_234) rfl rfl (v234_0 (pj_D_le 2) I J _ ?_)
  refine s212 (by decide) hB w0 w4 w2 (fun k hk e => kI_i ⟨fun z => absurd z (by decide), fun _ => ?_⟩) (fun z => kI_i ⟨fun _ => q2 (fun k hk _ => z k hk), fun z => absurd rfl z⟩)
  subst e
  refine s206 (Nat.le_refl 2) (v := 0) (by decide) g2 (by omega) (by omega) (kI_i ?_)
  rw [g4 k hk, Bool.not_not]
  cases e : L.the k with
  | true => exact ⟨fun z => absurd z (by decide), fun _ => q1 k hk rfl e⟩
  | false =>
    refine ⟨fun _ => q2 (fun j hj ht ej => ?_), fun z => absurd rfl z⟩
    have := (nI_eq (by omega) (by omega)).mp ej
    rw [← this, e] at ht
    cases ht
/-- the State behind State.dress -/
theorem LC_dress {a m : Nat} {o : Option Nat} {I' : Nat → Nat → Int32} (hL : LC W a L I) (hm : m < W.nm) (h5 : ∀ k, I' (a + 5) k = if k = m then wo o else I (a + 5) k) (h1 : ∀ k, k < W.nc → I' (a + 1) k = nI ((L.dress m o).lin k)) (hf : ∀ c j, c ≠ a + 5 → c ≠ a + 1 → I' c j = I c j) : LC W a (L.dress m o) I' := by
  obtain ⟨g1, g2, g3⟩ := hL
  refine ⟨(hf _ _ (by omega) (by omega)).trans g1, fun k hk => ⟨h1 k hk, (hf _ _ (by omega) (by omega)).trans (g2 k hk).2⟩, fun k hk => ⟨(hf _ _ (by omega) (by omega)).trans (g3 k hk).1, (hf _ _ (by omega) (by omega)).trans (g3 k hk).2.1, ?_, (hf _ _ (by omega) (by omega)).trans (g3 k hk).2.2.2.1, (hf _ _ (by omega) (by omega)).trans (g3 k hk).2.2.2.2⟩⟩
  rw [h5, dress_wor]
  by_cases e : k = m
  · rw [if_pos e, if_pos e]
  · rw [if_neg e, if_neg e]
    exact (g3 k hk).2.2.1
/-- State.dress -/
theorem s78 (hh : 1 ≤ h) {a m : Nat} {o : Option Nat} (ha : a ∈ [35, 43, 51, 240, 252]) (h8 : W.nc ≤ 8) (h7 : W.nm ≤ 7) (hL : LC W a L I) (hlin : ∀ k, k < W.nc → L.lin k ≤ 99) (hm : m < W.nm) (ho : ∀ c, o = some c → c < W.nc) (q : ∀ I', LC W a (L.dress m o) I' → pj_fr (fun c _ => c == a + 5 || c == a + 1) I I' → Q none (zc n, I', J)) : pj_D h 78 [.ref a, .int (nI m), .int (wo o)] (zc n, I, J) Q := by
  refine pj_ent (g := 0) hh (t := mt_78) rfl rfl (g78_0 (pj_D_le 0) ha I J _ _ ⟨pk_in m 7 (by omega), ?_⟩)
  have s5 : (a + 5 == a + 5 || a + 5 == a + 1) = true := by simp
  have s1 : (a + 1 == a + 5 || a + 1 == a + 1) = true := by simp
  have u5 : ∀ (F : Nat → Nat → Int32) (x : Int32) (k : Nat), pj_u F (a + 5) m x (a + 5) k = if k = m then x else F (a + 5) k := fun F x k => by
    by_cases e : k = m
    · rw [if_pos e, e, pj_u_e]
    · rw [if_neg e, pj_u_j e]
  rw [nI_clamp (n := m) (by omega)]
  cases o with
  | none =>
    refine ⟨fun _ => q _ (LC_dress hL hm (u5 _ _) (fun k hk => ?_) (fun c j c5 _ => pj_u_n c5)) (pj_fr_u pj_fr_rf s5), fun z => absurd rfl z⟩
    rw [pj_u_n (by omega), dress_lin, if_neg (by intro z; cases z)]
    exact (hL.2.1 k hk).1
  | some c =>
    have hc := ho c rfl
    have hl := hlin c hc
    show (nI c = -1 → _) ∧ (¬ nI c = -1 → _)
    refine ⟨fun z => ?_, fun _ => ⟨pk_in c 8 (by omega), ?_⟩⟩
    · have := (wo_none (o := some c) (fun c' e' => by cases e'; omega)).mp z
      cases this
    · have ec : (wo (some c)).toNatClampNeg = c := nI_clamp (n := c) (by omega)
      rw [ec, (hL.2.1 c hc).1, nI_1]
      refine pk_le 99 (L.lin c) (fun c9 => q _ (LC_dress hL hm (u5 _ _) (fun k hk => ?_) (fun c j c5 _ => pj_u_n c5)) (pj_fr_u pj_fr_rf s5)) (fun c9 => ⟨pk_in c 8 (by omega), pk_in c 8 (by omega), q _ (LC_dress hL hm (fun k => ?_) (fun k hk => ?_) (fun c j c5 c1 => (pj_u_n c1).trans (pj_u_n c5))) (pj_fr_u (pj_fr_u pj_fr_rf s5) s1)⟩)
      · rw [pj_u_n (by omega), dress_lin, (hL.2.1 k hk).1]
        by_cases e : some c = some k
        · cases e
          rw [if_pos rfl, if_neg (by omega)]
        · rw [if_neg e]
      · rw [pj_u_n (by omega)]
        exact u5 _ _ k
      · rw [dress_lin]
        by_cases e : some c = some k
        · cases e
          rw [pj_u_e, if_pos rfl, if_pos (by omega)]
        · rw [if_neg e, pj_u_j (fun z => e (by rw [z])), pj_u_n (by omega)]
          exact (hL.2.1 k hk).1
end PDr
