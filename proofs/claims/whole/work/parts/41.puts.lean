/-! the reference: a man puts a coat on, or none -/
/-- what may change of a layer of the reference, but for the kept years -/
def nS (v : Nat) : Nat → Nat → Bool := fun c j => match c with
  | 299 => j == v
  | 300 => j == v
  | 306 => j == v
  | 301 => Nat.ble (8 * v) j && Nat.blt j (8 * v + 8)
  | 302 => Nat.ble (7 * v) j && Nat.blt j (7 * v + 7)
  | 303 => Nat.ble (7 * v) j && Nat.blt j (7 * v + 7)
  | 304 => Nat.ble (7 * v) j && Nat.blt j (7 * v + 7)
  | 305 => Nat.ble (7 * v) j && Nat.blt j (7 * v + 7)
  | _ => false
theorem nS_m {v : Nat} {I I' : Nat → Nat → Int32} (h : pj_fr (nS v) I I') : pj_fr (mS v) I I' := pj_fr_w h (fun c j hc => by
  unfold mS at hc
  unfold nS
  split at hc <;> first | exact hc | rfl | skip
  split <;> first | rfl | contradiction | simp_all)
section PPu
variable {n h : Nat} {Q : pj_K} {I : Nat → Nat → Int32} {J : Nat → Nat → Int64} {W : Wk} {L : Ly} {B : Nat}
theorem LM_dress {v m : Nat} {o : Option Nat} {I' : Nat → Nat → Int32} (hL : LM W v L I) (hm : m < W.nm) (h4 : ∀ k, k < W.nm → I' 304 (7 * v + k) = if k = m then wo o else I 304 (7 * v + k)) (h1 : ∀ k, k < W.nc → I' 301 (8 * v + k) = nI ((L.dress m o).lin k)) (hf : ∀ c j, c ≠ 304 → c ≠ 301 → I' c j = I c j) : LM W v (L.dress m o) I' := by
  obtain ⟨g1, ⟨S, g2, g3, g4⟩, ⟨G, g5, g6, g7⟩, g8, g9⟩ := hL
  refine ⟨(hf _ _ (by decide) (by decide)).trans g1, ⟨S, (hf _ _ (by decide) (by decide)).trans g2, g3, g4⟩, ⟨G, (hf _ _ (by decide) (by decide)).trans g5, g6, g7⟩, h1, fun k hk => ⟨(hf _ _ (by decide) (by decide)).trans (g9 k hk).1, (hf _ _ (by decide) (by decide)).trans (g9 k hk).2.1, ?_, (hf _ _ (by decide) (by decide)).trans (g9 k hk).2.2.2⟩⟩
  rw [h4 k hk, dress_wor]
  by_cases e : k = m
  · rw [if_pos e, if_pos e]
  · rw [if_neg e, if_neg e]
    exact (g9 k hk).2.2.1
/-- PegCoatsModel.puts -/
theorem s230 (hh : 1 ≤ h) {v m : Nat} {o : Option Nat} (hv : v < 22) (h8 : W.nc ≤ 8) (h7 : W.nm ≤ 7) (hL : LM W v L I) (hlin : ∀ k, k < W.nc → L.lin k ≤ 99) (hwr : ∀ k c, k < W.nm → L.wor k = some c → c < W.nc) (hm : m < W.nm) (ho : ∀ c, o = some c → c < W.nc) (hne : ∀ c, o = some c → L.wor m ≠ some c) (q : ∀ I', LM W v (L.dress m o) I' → pj_fr (nS v) I I' → Q none (zc n, I', J)) : pj_D h 230 [.ref 276, .int (nI v), .int (nI m), .int (wo o)] (zc n, I, J) Q := by
  refine pj_ent (g := 0) hh (t := mt_230) rfl rfl (v230_0 (pj_D_le 0) I J _ _ _ ?_)
  have i7 := pk_in (x := nI (7 * v + m)) (7 * v + m) 154 (by omega)
  have s4 : nS v 304 (7 * v + m) = true := rg_t (by omega) (by omega)
  have u4 : ∀ (F : Nat → Nat → Int32) (x : Int32) (k : Nat), pj_u F 304 (7 * v + m) x 304 (7 * v + k) = if k = m then x else F 304 (7 * v + k) := fun F x k => by
    by_cases e : k = m
    · rw [if_pos e, e, pj_u_e]
    · rw [if_neg e, pj_u_j (by omega)]
  rw [li_7, nI_clamp (n := 7 * v + m) (by omega)]
  cases o with
  | none =>
    refine ⟨fun _ => ⟨i7, q _ (LM_dress hL hm (fun k _ => u4 _ _ k) (fun k hk => ?_) (fun c j c4 _ => pj_u_n c4)) (pj_fr_u pj_fr_rf s4)⟩, fun z => absurd rfl z⟩
    rw [pj_u_n (by decide), dress_lin, if_neg (by intro z; cases z)]
    exact hL.2.2.2.1 k hk
  | some c =>
    have hc := ho c rfl
    have hl := hlin c hc
    have e8 : (8 : Int32) * nI v + wo (some c) = nI (8 * v + c) := li_8 v c
    have i8 := pk_in (x := nI (8 * v + c)) (8 * v + c) 176 (by omega)
    have s1 : nS v 301 (8 * v + c) = true := rg_t (by omega) (by omega)
    rw [e8, nI_clamp (n := 8 * v + c) (by omega), hL.2.2.2.1 c hc, (hL.2.2.2.2 m hm).2.2.1, nI_1]
    refine ⟨fun z => ?_, fun _ => ⟨i7, fun z => ?_, fun _ => ⟨i8, ?_⟩⟩⟩
    · have := (wo_none (o := some c) (fun c' e' => by cases e'; omega)).mp z
      cases this
    · have z : wo (L.wor m) = nI c := z
      exact absurd ((wo_eq (fun c' e => by have := hwr m c' hm e; omega) (by omega)).mp z) (hne c rfl)
    · refine pk_le 99 (L.lin c) (fun c9 => ⟨i7, q _ (LM_dress hL hm (fun k _ => u4 _ _ k) (fun k hk => ?_) (fun c j c4 _ => pj_u_n c4)) (pj_fr_u pj_fr_rf s4)⟩) (fun c9 => ⟨i8, i8, i7, q _ (LM_dress hL hm (fun k _ => ?_) (fun k hk => ?_) (fun c j c4 c1 => (pj_u_n c4).trans (pj_u_n c1))) (pj_fr_u (pj_fr_u pj_fr_rf s1) s4)⟩)
      · rw [pj_u_n (by decide), dress_lin, hL.2.2.2.1 k hk]
        by_cases e : some c = some k
        · cases e
          rw [if_pos rfl, if_neg (by omega)]
        · rw [if_neg e]
      · rw [u4, pj_u_n (by decide)]
      · rw [pj_u_n (by decide), dress_lin]
        by_cases e : some c = some k
        · cases e
          rw [pj_u_e, if_pos rfl, if_pos (by omega)]
        · rw [if_neg e, pj_u_j (fun z => e (by congr 1; omega))]
          exact hL.2.2.2.1 k hk
end PPu
