/-! a coat burns -/
def Ly.burn (L : Ly) (c : Nat) (o : Option Nat) : Ly := (L.yr, L.lin, (fun k => if k = c then true else L.bur k), L.siz, L.age, (fun k => if o = some k then none else L.wor k), L.pur, L.the)
theorem burn_bur {L : Ly} {c k : Nat} {o : Option Nat} : (L.burn c o).bur k = if k = c then true else L.bur k := rfl
theorem burn_wor {L : Ly} {c k : Nat} {o : Option Nat} : (L.burn c o).wor k = if o = some k then none else L.wor k := rfl
section PBu
variable {n h : Nat} {Q : pj_K} {I : Nat → Nat → Int32} {J : Nat → Nat → Int64} {W : Wk} {L : Ly} {B : Nat}
theorem wr_lt {c m : Nat} (e : wr W L c = some m) : m < W.nm := by
  have := (ff_some e).2.1
  omega
theorem LC_burn {a c : Nat} {o : Option Nat} {I' : Nat → Nat → Int32} (hL : LC W a L I) (h2 : ∀ k, k < W.nc → I' (a + 2) k = if k = c then 1 else I (a + 2) k) (h5 : ∀ k, k < W.nm → I' (a + 5) k = if o = some k then -1 else I (a + 5) k) (hf : ∀ c j, c ≠ a + 5 → c ≠ a + 2 → I' c j = I c j) : LC W a (L.burn c o) I' := by
  obtain ⟨g1, g2, g3⟩ := hL
  refine ⟨(hf _ _ (by omega) (by omega)).trans g1, fun k hk => ⟨(hf _ _ (by omega) (by omega)).trans (g2 k hk).1, ?_⟩, fun k hk => ⟨(hf _ _ (by omega) (by omega)).trans (g3 k hk).1, (hf _ _ (by omega) (by omega)).trans (g3 k hk).2.1, ?_, (hf _ _ (by omega) (by omega)).trans (g3 k hk).2.2.2.1, (hf _ _ (by omega) (by omega)).trans (g3 k hk).2.2.2.2⟩⟩
  · rw [h2 k hk, burn_bur]
    by_cases e : k = c
    · rw [if_pos e, if_pos e]; rfl
    · rw [if_neg e, if_neg e]; exact (g2 k hk).2
  · rw [h5 k hk, burn_wor]
    by_cases e : o = some k
    · rw [if_pos e, if_pos e]; rfl
    · rw [if_neg e, if_neg e]; exact (g3 k hk).2.2.1
/-- State.burn -/
theorem s80 (hh : 2 ≤ h) {c : Nat} (h8 : W.nc ≤ 8) (h7 : W.nm ≤ 7) (hL : LC W 35 L I) (hV : LV W L) (hc : c < W.nc) (q : ∀ I', LC W 35 (L.burn c (wr W L c)) I' → pj_fr (fun c _ => c == 37 || c == 40) I I' → Q none (zc n, I', J)) : pj_D h 80 [.ref 35, .int (nI c), .int (nI W.nm)] (zc n, I, J) Q := by
  refine pj_ent (g := 1) hh (t := mt_80) rfl rfl (v80_0 (pj_D_le 1) I J _ _ ⟨pk_in c 8 (by omega), ?_⟩)
  rw [nI_clamp (n := c) (by omega)]
  have u2 : ∀ k, pj_u I 37 c (1 &&& 1) 37 k = if k = c then 1 else I 37 k := fun k => by
    by_cases e : k = c
    · rw [if_pos e, e, pj_u_e]; rfl
    · rw [if_neg e, pj_u_j e]
  refine s76 (Nat.le_refl 1) (a := 35) (by decide) h7 (kI_i ?_)
  have e40 : (fun k => decide (pj_u I 37 c (1 &&& 1) (35 + 5) k = nI c)) = fun k => decide (I (35 + 5) k = nI c) := by
    funext k
    rw [pj_u_n (by decide)]
  rw [e40, wr_C h8 hL hV (by omega)]
  have hw := wo_none (o := wr W L c) (fun m e => by have := wr_lt e; omega)
  cases e : wr W L c with
  | none =>
    rw [e] at q
    refine ⟨fun _ => q _ (LC_burn hL (fun k _ => u2 k) (fun k _ => ?_) (fun c' j _ c2 => pj_u_n c2)) (pj_fr_u pj_fr_rf rfl), fun z => absurd rfl z⟩
    rw [if_neg (by intro z; cases z), pj_u_n (by decide)]
  | some m =>
    have hm := wr_lt e
    rw [e] at q hw
    refine ⟨fun z => absurd (hw.mp z) (by intro y; cases y), fun _ => ⟨pk_in m 7 (by omega), ?_⟩⟩
    have ec : (wo (some m)).toNatClampNeg = m := nI_clamp (n := m) (by omega)
    rw [ec]
    refine q _ (LC_burn hL (fun k _ => ?_) (fun k _ => ?_) (fun c' j c5 c2 => (pj_u_n c5).trans (pj_u_n c2))) (pj_fr_u (pj_fr_u pj_fr_rf rfl) rfl)
    · rw [pj_u_n (by decide)]
      exact u2 k
    · by_cases e2 : some m = some k
      · cases e2
        rw [if_pos rfl]
        exact pj_u_e
      · rw [if_neg e2, pj_u_j (fun z => e2 (by rw [z])), pj_u_n (by decide)]
end PBu
