/-! the reference's frames in its cells -/
def OpM (b : Nat) : List Nat → (Nat → Nat → Int32) → Prop
  | [], _ => True
  | x :: l, I => I 297 (b + l.length) = nI x ∧ OpM b l I
def FrM : List Fr → (Nat → Nat → Int32) → Prop
  | [], _ => True
  | F :: r, I => (I 292 r.length = nI F.1 ∧ I 293 r.length = nI F.2.1 ∧ I 294 r.length = bi F.2.2.1 ∧ (F.1 = 3 ∨ F.1 = 4 ∨ F.1 = 6 → I 295 r.length = nI F.2.2.2.1) ∧ I 296 r.length = nI (tot r) ∧ OpM (tot r) F.2.2.2.2 I ∧ (∀ x, x ∈ F.2.2.2.2 → x < 100) ∧ F.1 ≤ 6 ∧ F.2.1 ≤ 2 ∧ F.2.2.2.1 ≤ 44) ∧ FrM r I
def ntt : List Fr → Nat
  | [] => 0
  | F :: r => nts F.2.2.2.2 + ntt r
theorem OpM_fr {b : Nat} {I I' : Nat → Nat → Int32} : ∀ {l : List Nat}, (∀ j, j < b + l.length → I' 297 j = I 297 j) → OpM b l I → OpM b l I'
  | [], _, _ => trivial
  | x :: l, hf, h => ⟨(hf _ (by simp only [List.length_cons]; omega)).trans h.1, OpM_fr (fun j hj => hf j (by simp only [List.length_cons]; omega)) h.2⟩
theorem FrM_fr {I I' : Nat → Nat → Int32} : ∀ {fs : List Fr}, (∀ c j, 292 ≤ c → c ≤ 296 → j < fs.length → I' c j = I c j) → (∀ j, j < tot fs → I' 297 j = I 297 j) → FrM fs I → FrM fs I'
  | [], _, _, _ => trivial
  | F :: r, hf, ho, h => by
    obtain ⟨⟨a1, a2, a3, a4, a5, a6, a7⟩, b⟩ := h
    have l : r.length < (F :: r).length := Nat.lt_succ_self _
    have t : tot (F :: r) = F.2.2.2.2.length + tot r := rfl
    exact ⟨⟨(hf _ _ (by decide) (by decide) l).trans a1, (hf _ _ (by decide) (by decide) l).trans a2, (hf _ _ (by decide) (by decide) l).trans a3, fun z => (hf _ _ (by decide) (by decide) l).trans (a4 z), (hf _ _ (by decide) (by decide) l).trans a5, OpM_fr (fun j hj => ho j (by omega)) a6, a7⟩, FrM_fr (fun c j h1 h2 h3 => hf c j h1 h2 (Nat.lt_of_lt_of_le h3 (Nat.le_succ _))) (fun j hj => ho j (by omega)) b⟩
theorem MC_app {I : Nat → Nat → Int32} : ∀ {a b : List Tk} {k : Nat}, MC k (a ++ b) I ↔ MC k a I ∧ MC (k + a.length) b I
  | [], b, k => ⟨fun h => ⟨trivial, h⟩, fun h => h.2⟩
  | t :: a, b, k => by
    show (_ ∧ MC (k + 1) (a ++ b) I) ↔ (_ ∧ MC (k + 1) a I) ∧ MC (k + (a.length + 1)) b I
    rw [MC_app (a := a) (b := b) (k := k + 1), show k + 1 + a.length = k + (a.length + 1) by omega]
    exact and_assoc.symm
/-- all but the scanner -/
def RX (B pg : Nat) (fs : List Fr) (C : List Tk) (o : Nat) (b : Bool) (I : Nat → Nat → Int32) : Prop := I 276 29 = nI B ∧ B < 2 ∧ I 276 30 = nI pg ∧ I 276 28 = nI C.length ∧ MC (1600 * B) C I ∧ I 276 36 = nI fs.length ∧ I 276 37 = nI o ∧ I 276 39 = nI (tot fs) ∧ I 276 40 = bi b ∧ FrM fs I
def gM (B : Nat) : Nat → Nat → Bool := fun c j => (c == 276 && (j == 3 || j == 4 || j == 5 || j == 6 || j == 12 || j == 8 || j == 9 || j == 28 || j == 36 || j == 37 || j == 39 || j == 40)) || (Nat.ble 292 c && Nat.ble c 297) || ((c == 288 || c == 289) && Nat.ble (1600 * B) j && Nat.blt j (1600 * B + 1600))
theorem gM_x {B : Nat} : ∀ a j, gM B a j = false → xM a j = false := fun a j h => by
  unfold gM at h
  unfold xM
  cases e : (a == 276) with
  | false => rfl
  | true =>
    rw [e, Bool.true_and] at h
    rw [Bool.true_and]
    simp only [Bool.or_eq_false_iff] at h ⊢
    exact h.1.1.1.1.1.1.1
theorem gM_w {B : Nat} {I I' : Nat → Nat → Int32} (h : pj_fr xM I I') : pj_fr (gM B) I I' := pj_fr_w h gM_x
theorem gM_8 {B c j : Nat} (hc : c = 288 ∨ c = 289) (h1 : 1600 * B ≤ j) (h2 : j < 1600 * B + 1600) : gM B c j = true := by
  unfold gM
  rw [Nat.ble_eq_true_of_le h1, show Nat.blt j (1600 * B + 1600) = true from Nat.ble_eq_true_of_le h2]
  rcases hc with rfl | rfl <;> rfl
theorem gM_9 {B c j : Nat} (h1 : 292 ≤ c) (h2 : c ≤ 297) : gM B c j = true := by
  unfold gM
  rw [Nat.ble_eq_true_of_le h1, Nat.ble_eq_true_of_le h2]
  simp
def xRX (c j : Nat) : Prop := (c = 276 ∧ (j = 28 ∨ j = 29 ∨ j = 30 ∨ j = 36 ∨ j = 37 ∨ j = 39 ∨ j = 40)) ∨ c = 288 ∨ c = 289 ∨ (292 ≤ c ∧ c ≤ 297)
theorem RX_fr {B pg : Nat} {fs : List Fr} {C : List Tk} {o : Nat} {b : Bool} {I I' : Nat → Nat → Int32} (hf : ∀ c j, xRX c j → I' c j = I c j) (h : RX B pg fs C o b I) : RX B pg fs C o b I' := by
  obtain ⟨a1, a2, a3, a4, a5, a6, a7, a8, a9, a10⟩ := h
  have g : ∀ j, (j = 28 ∨ j = 29 ∨ j = 30 ∨ j = 36 ∨ j = 37 ∨ j = 39 ∨ j = 40) → I' 276 j = I 276 j := fun j hj => hf 276 j (Or.inl ⟨rfl, hj⟩)
  exact ⟨(g 29 (by decide)).trans a1, a2, (g 30 (by decide)).trans a3, (g 28 (by decide)).trans a4, MC_fr (fun j _ _ => ⟨hf _ _ (Or.inr (Or.inl rfl)), hf _ _ (Or.inr (Or.inr (Or.inl rfl)))⟩) a5, (g 36 (by decide)).trans a6, (g 37 (by decide)).trans a7, (g 39 (by decide)).trans a8, (g 40 (by decide)).trans a9, FrM_fr (fun c j h1 h2 _ => hf c j (Or.inr (Or.inr (Or.inr ⟨h1, by omega⟩)))) (fun j _ => hf 297 j (Or.inr (Or.inr (Or.inr (by decide))))) a10⟩
theorem RX_x {B pg : Nat} {fs : List Fr} {C : List Tk} {o : Nat} {b : Bool} {I I' : Nat → Nat → Int32} (hf : pj_fr xM I I') (h : RX B pg fs C o b I) : RX B pg fs C o b I' := RX_fr (fun c j hc => by
  refine hf c j ?_
  rcases hc with ⟨rfl, hj⟩ | hc
  · rcases hj with rfl | rfl | rfl | rfl | rfl | rfl | rfl <;> rfl
  · exact xM_f (by omega)) h
/-- the scanner's cells stay -/
theorem MS_u {m : Nat} {f : Nat → Nat} {s : Rs Nat} {I : Nat → Nat → Int32} {J : Nat → Nat → Int64} {c j : Nat} {v : Int32} (hc : c ≠ 277) (hj : c = 276 → ¬ (j = 2 ∨ j = 3 ∨ j = 4 ∨ j = 5 ∨ j = 6 ∨ j = 8 ∨ j = 9 ∨ j = 12)) (h : MS m f s I J) : MS m f s (pj_u I c j v) J := by
  refine MS_fr (fun i hi => ?_) (fun i => pj_u_n (Ne.symm hc)) rfl h
  by_cases e : c = 276
  · subst e
    exact pj_u_j (fun z => hj rfl (by rw [← z]; exact hi))
  · exact pj_u_n (fun z => e z.symm)
section PMt
variable {n h : Nat} {Q : pj_K} {I : Nat → Nat → Int32} {J : Nat → Nat → Int64} {m : Nat} {f : Nat → Nat} {B pg : Nat} {fs : List Fr} {C : List Tk} {o p : Nat} {b : Bool} {s : Rs Nat}
/-- add -/
theorem m192 (hh : 1 ≤ h) {t : Tk} {v : Int32} (hX : RX B pg fs C o b I) (hs : MS m f s I J) (hl : C.length < 1600) (hv : t.1 = 0 → v = nI t.2) (q : ∀ I', pj_fr (gM B) I I' → RX B pg fs (C ++ [t]) o b I' → MS m f s I' J → (∀ j, I' 297 j = I 297 j) → I' 276 39 = I 276 39 → I' 276 37 = I 276 37 → Q none (zc n, I', J)) : pj_D h 192 [.ref 276, .int (nI (mtk t)), .int v] (zc n, I, J) Q := by
  refine pj_ent (g := 0) hh (t := mt_192) rfl rfl (v192_0 (pj_D_le 0) I J _ _ ?_)
  obtain ⟨a1, a2, a3, a4, a5, a6, a7, a8, a9, a10⟩ := hX
  have e1 : 1600 * I 276 29 + I 276 28 = nI (1600 * B + C.length) := by
    rw [a1, a4]
    have : 1600 * nI B = nI (1600 * B) := pk_mul 1600 B
    rw [this, nI_add]
  rw [e1, nI_clamp (by omega), a4, nI_1]
  refine ⟨vp_in_nI (by omega) (by decide), vp_in_nI (by omega) (by decide), q _ (pj_fr_u (pj_fr_u (pj_fr_u pj_fr_rf (gM_8 (Or.inl rfl) (by omega) (by omega))) (gM_8 (Or.inr rfl) (by omega) (by omega))) rfl) ⟨?_, a2, ?_, ?_, ?_, ?_, ?_, ?_, ?_, ?_⟩ (MS_u (by decide) (fun _ => by decide) (MS_u (by decide) (fun z => by cases z) (MS_u (by decide) (fun z => by cases z) hs))) (fun j => ?_) ?_ ?_⟩
  · rw [pj_u_j (by decide), pj_u_n (by decide), pj_u_n (by decide)]; exact a1
  · rw [pj_u_j (by decide), pj_u_n (by decide), pj_u_n (by decide)]; exact a3
  · rw [pj_u_e, List.length_append]; rfl
  · refine MC_app.mpr ⟨MC_fr (fun j h1 h2 => ?_) a5, ?_, trivial⟩
    · exact ⟨by rw [pj_u_n (by decide), pj_u_n (by decide), pj_u_j (by omega)], by rw [pj_u_n (by decide), pj_u_j (by omega), pj_u_n (by decide)]⟩
    · exact ⟨by rw [pj_u_n (by decide), pj_u_n (by decide), pj_u_e], fun z => by rw [pj_u_n (by decide), pj_u_e]; exact hv z⟩
  · rw [pj_u_j (by decide), pj_u_n (by decide), pj_u_n (by decide)]; exact a6
  · rw [pj_u_j (by decide), pj_u_n (by decide), pj_u_n (by decide)]; exact a7
  · rw [pj_u_j (by decide), pj_u_n (by decide), pj_u_n (by decide)]; exact a8
  · rw [pj_u_j (by decide), pj_u_n (by decide), pj_u_n (by decide)]; exact a9
  · exact FrM_fr (fun c j h1 h2 _ => by rw [pj_u_n (by omega), pj_u_n (by omega), pj_u_n (by omega)]) (fun j _ => by rw [pj_u_n (by decide), pj_u_n (by decide), pj_u_n (by decide)]) a10
  · rw [pj_u_n (by decide), pj_u_n (by decide), pj_u_n (by decide)]
  · rw [pj_u_j (by decide), pj_u_n (by decide), pj_u_n (by decide)]
  · rw [pj_u_j (by decide), pj_u_n (by decide), pj_u_n (by decide)]
/-- holdsBack -/
theorem m189 (hh : 1 ≤ h) {kd ph : Nat} {bg : Bool} {pa x : Nat} {os : List Nat} (hX : RX B pg ((kd, ph, bg, pa, os) :: fs) C o b I) (hs : MS m f s I J) (hl : os.length + tot fs ≤ 490) (hx : x < 100) (q : ∀ I', pj_fr (gM B) I I' → RX B pg ((kd, ph, bg, pa, x :: os) :: fs) C o b I' → MS m f s I' J → Q none (zc n, I', J)) : pj_D h 189 [.ref 276, .int (nI x)] (zc n, I, J) Q := by
  refine pj_ent (g := 0) hh (t := mt_189) rfl rfl (v189_0 (pj_D_le 0) I J _ ?_)
  obtain ⟨a1, a2, a3, a4, a5, a6, a7, a8, a9, ⟨b1, b2, b3, b4, b5, b6, b7, b8⟩, a10⟩ := hX
  have t0 : tot ((kd, ph, bg, pa, os) :: fs) = os.length + tot fs := rfl
  rw [a8, t0, nI_clamp (by omega), nI_1]
  refine ⟨vp_in_nI (by omega) (by decide), q _ (pj_fr_u (pj_fr_u pj_fr_rf (gM_9 (by decide) (by decide))) rfl) ⟨?_, a2, ?_, ?_, ?_, ?_, ?_, ?_, ?_, ⟨?_, ?_, ?_, ?_, ?_, ?_, ?_, b8⟩, ?_⟩ (MS_u (by decide) (fun _ => by decide) (MS_u (by decide) (fun z => by cases z) hs))⟩
  · rw [pj_u_j (by decide), pj_u_n (by decide)]; exact a1
  · rw [pj_u_j (by decide), pj_u_n (by decide)]; exact a3
  · rw [pj_u_j (by decide), pj_u_n (by decide)]; exact a4
  · exact MC_fr (fun j h1 h2 => ⟨by rw [pj_u_n (by decide), pj_u_n (by decide)], by rw [pj_u_n (by decide), pj_u_n (by decide)]⟩) a5
  · rw [pj_u_j (by decide), pj_u_n (by decide)]; exact a6
  · rw [pj_u_j (by decide), pj_u_n (by decide)]; exact a7
  · rw [pj_u_e]; exact congrArg nI (by show os.length + tot fs + 1 = os.length + 1 + tot fs; omega)
  · rw [pj_u_j (by decide), pj_u_n (by decide)]; exact a9
  · rw [pj_u_n (by decide), pj_u_n (by decide)]; exact b1
  · rw [pj_u_n (by decide), pj_u_n (by decide)]; exact b2
  · rw [pj_u_n (by decide), pj_u_n (by decide)]; exact b3
  · intro z; rw [pj_u_n (by decide), pj_u_n (by decide)]; exact b4 z
  · rw [pj_u_n (by decide), pj_u_n (by decide)]; exact b5
  · refine ⟨?_, OpM_fr (fun j hj => ?_) b6⟩
    · rw [pj_u_n (by decide), show tot fs + os.length = os.length + tot fs by omega, pj_u_e]
    · have hj : j < tot fs + os.length := hj
      rw [pj_u_n (by decide), pj_u_j (by omega)]
  · intro y hy
    rcases List.mem_cons.mp hy with rfl | hy
    · exact hx
    · exact b7 y hy
  · exact FrM_fr (fun c j h1 h2 _ => by rw [pj_u_n (by omega), pj_u_n (by omega)]) (fun j hj => by rw [pj_u_n (by decide), pj_u_j (by omega)]) a10
/-- pushes -/
theorem m186 (hh : 1 ≤ h) {kd : Nat} (hX : RX B pg fs C o b I) (hs : MS m f s I J) (hl : fs.length ≤ 18) (hk : kd ≤ 6) (q : ∀ I', pj_fr (gM B) I I' → (∀ pa, pa ≤ 44 → RX B pg ((kd, 0, true, pa, []) :: fs) C o b (pj_u I' 295 fs.length (nI pa))) → (¬ (kd = 3 ∨ kd = 4 ∨ kd = 6) → RX B pg ((kd, 0, true, 0, []) :: fs) C o b I') → MS m f s I' J → I' 276 36 = nI (fs.length + 1) → Q none (zc n, I', J)) : pj_D h 186 [.ref 276, .int (nI kd)] (zc n, I, J) Q := by
  refine pj_ent (g := 0) hh (t := mt_186) rfl rfl (v186_0 (pj_D_le 0) I J _ ?_)
  obtain ⟨a1, a2, a3, a4, a5, a6, a7, a8, a9, a10⟩ := hX
  rw [a6, a8, nI_clamp (by omega), nI_1]
  have vi : vp_in (nI fs.length) 20 := vp_in_nI (by omega) (by decide)
  have g : ∀ I' : Nat → Nat → Int32, (∀ c j, c ≠ 295 → I' c j = (pj_u (pj_u (pj_u (pj_u (pj_u I 292 fs.length (nI kd)) 293 fs.length 0) 294 fs.length (1 &&& 1)) 296 fs.length (nI (tot fs))) 276 36 (nI (fs.length + 1))) c j) → (∀ j, j ≠ fs.length → I' 295 j = I 295 j) → ∀ pa, pa ≤ 44 → (kd = 3 ∨ kd = 4 ∨ kd = 6 → I' 295 fs.length = nI pa) → RX B pg ((kd, 0, true, pa, []) :: fs) C o b I' := fun I' e e5 pa hpa hp => by
    refine ⟨?_, a2, ?_, ?_, ?_, ?_, ?_, ?_, ?_, ⟨?_, ?_, ?_, hp, ?_, trivial, (fun x hx => by cases hx), hk, Nat.zero_le _, hpa⟩, ?_⟩
    · rw [e _ _ (by decide), pj_u_j (by decide), pj_u_n (by decide), pj_u_n (by decide), pj_u_n (by decide), pj_u_n (by decide)]; exact a1
    · rw [e _ _ (by decide), pj_u_j (by decide), pj_u_n (by decide), pj_u_n (by decide), pj_u_n (by decide), pj_u_n (by decide)]; exact a3
    · rw [e _ _ (by decide), pj_u_j (by decide), pj_u_n (by decide), pj_u_n (by decide), pj_u_n (by decide), pj_u_n (by decide)]; exact a4
    · exact MC_fr (fun j h1 h2 => ⟨by rw [e _ _ (by decide), pj_u_n (by decide), pj_u_n (by decide), pj_u_n (by decide), pj_u_n (by decide), pj_u_n (by decide)], by rw [e _ _ (by decide), pj_u_n (by decide), pj_u_n (by decide), pj_u_n (by decide), pj_u_n (by decide), pj_u_n (by decide)]⟩) a5
    · rw [e _ _ (by decide), pj_u_e]; rfl
    · rw [e _ _ (by decide), pj_u_j (by decide), pj_u_n (by decide), pj_u_n (by decide), pj_u_n (by decide), pj_u_n (by decide)]; exact a7
    · rw [e _ _ (by decide), pj_u_j (by decide), pj_u_n (by decide), pj_u_n (by decide), pj_u_n (by decide), pj_u_n (by decide)]; exact a8.trans (congrArg nI (Nat.zero_add _).symm)
    · rw [e _ _ (by decide), pj_u_j (by decide), pj_u_n (by decide), pj_u_n (by decide), pj_u_n (by decide), pj_u_n (by decide)]; exact a9
    · rw [e _ _ (by decide), pj_u_n (by decide), pj_u_n (by decide), pj_u_n (by decide), pj_u_n (by decide), pj_u_e]
    · rw [e _ _ (by decide), pj_u_n (by decide), pj_u_n (by decide), pj_u_n (by decide), pj_u_e]; rfl
    · rw [e _ _ (by decide), pj_u_n (by decide), pj_u_n (by decide), pj_u_e]; rfl
    · rw [e _ _ (by decide), pj_u_n (by decide), pj_u_e]
    · refine FrM_fr (fun c j h1 h2 h3 => ?_) (fun j hj => ?_) a10
      · by_cases c5 : c = 295
        · rw [c5]; exact e5 j (by omega)
        · rw [e _ _ c5, pj_u_n (by omega), pj_u_j (by omega), pj_u_j (by omega), pj_u_j (by omega), pj_u_j (by omega)]
      · rw [e _ _ (by decide), pj_u_n (by decide), pj_u_n (by decide), pj_u_n (by decide), pj_u_n (by decide), pj_u_n (by decide)]
  refine ⟨vi, vi, vi, vi, q _ (pj_fr_u (pj_fr_u (pj_fr_u (pj_fr_u (pj_fr_u pj_fr_rf (gM_9 (by decide) (by decide))) (gM_9 (by decide) (by decide))) (gM_9 (by decide) (by decide))) (gM_9 (by decide) (by decide))) rfl) (fun pa hpa => g _ (fun c j hc => pj_u_n hc) (fun j hj => ?_) pa hpa (fun _ => pj_u_e)) (fun hn => g _ (fun c j _ => rfl) (fun j hj => ?_) 0 (by decide) (fun z => absurd z hn)) (MS_u (by decide) (fun _ => by decide) (MS_u (by decide) (fun z => by cases z) (MS_u (by decide) (fun z => by cases z) (MS_u (by decide) (fun z => by cases z) (MS_u (by decide) (fun z => by cases z) hs))))) pj_u_e⟩
  · rw [pj_u_j hj, pj_u_n (by decide), pj_u_n (by decide), pj_u_n (by decide), pj_u_n (by decide), pj_u_n (by decide)]
  · rw [pj_u_n (by decide), pj_u_n (by decide), pj_u_n (by decide), pj_u_n (by decide), pj_u_n (by decide)]
/-- rank -/
theorem m195 (hh : 1 ≤ h) {x : Nat} (hx : x < 100) (q : Q (some (.int (nI (rnk x)))) (zc n, I, J)) : pj_D h 195 [.int (nI x)] (zc n, I, J) Q := by
  refine pj_ent (g := 0) hh (t := mt_195) rfl rfl (v195_0 (pj_D_le 0) I J _ ?_)
  have e : ∀ k, k < 100 → ((nI x = nI k) ↔ x = k) := fun k hk => nI_eq (by omega) (by omega)
  have e42 : (nI x = 42) ↔ x = 42 := e 42 (by decide)
  have e41 : (nI x = 41) ↔ x = 41 := e 41 (by decide)
  have e43 : (nI x = 43) ↔ x = 43 := e 43 (by decide)
  have e38 : (nI x = 38) ↔ x = 38 := e 38 (by decide)
  have e39 : (nI x = 39) ↔ x = 39 := e 39 (by decide)
  have e40 : (nI x = 40) ↔ x = 40 := e 40 (by decide)
  have e31 : (nI x = 31) ↔ x = 31 := e 31 (by decide)
  have e32 : (nI x = 32) ↔ x = 32 := e 32 (by decide)
  rw [e42, e41, e43, e38, e39, e40, e31, e32]
  unfold rnk at q
  refine ⟨fun c42 => ⟨fun c41 => ⟨fun c43 => ⟨fun c => ?_, fun c38 => ⟨fun c => ?_, fun c39 => ⟨fun c40 => ⟨fun c => ?_, fun c31 => ⟨fun c32 => ?_, fun c => ?_⟩⟩, fun c => ?_⟩⟩⟩, fun c => ?_⟩, fun c => ?_⟩, fun c => ?_⟩
  · rw [if_neg c42, if_neg c41, if_neg c43, if_pos (Or.inl c)] at q; exact q
  · rw [if_neg c42, if_neg c41, if_neg c43, if_pos (Or.inr (Or.inl c))] at q; exact q
  · rw [if_neg c42, if_neg c41, if_neg c43, if_neg (by omega), if_pos (Or.inl c)] at q; exact q
  · rw [if_neg c42, if_neg c41, if_neg c43, if_neg (by omega), if_neg (by omega)] at q; exact q
  · rw [if_neg c42, if_neg c41, if_neg c43, if_neg (by omega), if_pos (Or.inr c)] at q; exact q
  · rw [if_neg c42, if_neg c41, if_neg c43, if_pos (Or.inr (Or.inr c))] at q; exact q
  · rw [if_neg c42, if_neg c41, if_pos c] at q; exact q
  · rw [if_neg c42, if_pos c] at q; exact q
  · rw [if_pos c] at q; exact q
theorem mtk_O {x : Nat} (hx : x ≠ 44) : mtk (tkO x) = x ∨ x = 43 := by
  unfold tkO
  by_cases c : x = 43
  · exact Or.inr c
  · rw [if_neg c, if_neg hx]
    exact Or.inl rfl
theorem mtk_o (x : Nat) : mtk (tkO x) = x ∧ (tkO x).1 ≠ 0 := by
  unfold tkO
  split
  · rename_i c; rw [c]; decide
  · split
    · rename_i c; rw [c]; decide
    · exact ⟨rfl, by show (2 : Nat) ≠ 0; decide⟩
/-- joins -/
theorem m194 (hh : 2 ≤ h) {r kd ph : Nat} {bg : Bool} {pa : Nat} (hr : r ≤ 10) : ∀ (os : List Nat) (C : List Tk) (o : Nat) (I : Nat → Nat → Int32), RX B pg ((kd, ph, bg, pa, os) :: fs) C o b I → MS m f s I J → C.length + os.length ≤ 1600 → os.length + tot fs ≤ 490 → fs.length ≤ 18 → nts os ≤ o → (∀ I', pj_fr (gM B) I I' → RX B pg ((kd, ph, bg, pa, (flu r os C o).1) :: fs) (flu r os C o).2.1 (flu r os C o).2.2 b I' → MS m f s I' J → Q none (zc n, I', J)) → pj_D h 194 [.ref 276, .int (nI r)] (zc n, I, J) Q := by
  suffices loop : ∀ (os : List Nat) (C : List Tk) (o : Nat) (I : Nat → Nat → Int32), RX B pg ((kd, ph, bg, pa, os) :: fs) C o b I → MS m f s I J → C.length + os.length ≤ 1600 → os.length + tot fs ≤ 490 → fs.length ≤ 18 → nts os ≤ o → (∀ I', pj_fr (gM B) I I' → RX B pg ((kd, ph, bg, pa, (flu r os C o).1) :: fs) (flu r os C o).2.1 (flu r os C o).2.2 b I' → MS m f s I' J → Q none (zc n, I', J)) → pj_R (pj_D 1) ta mc_194 false Q 0 [some (.ref 276), some (.int (nI r))] [] (zc n) I J 0 0 from
    fun os C o I h1 h2 h3 h4 h5 h6 q => pj_ent (g := 1) hh (t := mt_194) rfl rfl (loop os C o I h1 h2 h3 h4 h5 h6 q)
  intro os
  induction os with
  | nil =>
    intro C o I hX hs h3 h4 h5 h6 q
    have hX0 := hX
    obtain ⟨a1, a2, a3, a4, a5, a6, a7, a8, a9, ⟨b1, b2, b3, b4, b5, b6, b7, b8⟩, a10⟩ := hX
    refine v194_0 (pj_D_le 1) I J _ ?_
    have e6 : I 276 36 - 1 = nI fs.length := by rw [a6]; exact nI_pred _
    rw [e6]
    refine ⟨vp_in_nI (by omega) (by decide), br_t ?_ (q I pj_fr_rf hX0 hs)⟩
    rw [nI_clamp (by omega), a8, b5]
    exact nI_le (by show 0 + tot fs ≤ tot fs; omega) (by omega)
  | cons x l ih =>
    intro C o I hX hs h3 h4 h5 h6 q
    have hX0 := hX
    obtain ⟨a1, a2, a3, a4, a5, a6, a7, a8, a9, ⟨b1, b2, b3, b4, b5, b6, b7, b8⟩, a10⟩ := hX
    have t0 : tot ((kd, ph, bg, pa, x :: l) :: fs) = l.length + 1 + tot fs := rfl
    have hx : x < 100 := b7 x List.mem_cons_self
    simp only [List.length_cons] at h3 h4
    unfold nts at h6
    refine v194_0 (pj_D_le 1) I J _ ?_
    have e6 : I 276 36 - 1 = nI fs.length := by rw [a6]; exact nI_pred _
    have e8 : I 276 39 - 1 = nI (l.length + tot fs) := by
      rw [a8, t0, show l.length + 1 + tot fs = l.length + tot fs + 1 by omega]
      exact nI_pred _
    have e7 : I 297 (l.length + tot fs) = nI x := by rw [Nat.add_comm]; exact b6.1
    rw [e6, e8]
    refine ⟨vp_in_nI (by omega) (by decide), br_f ?_ ⟨vp_in_nI (by omega) (by decide), ?_⟩⟩
    · rw [nI_clamp (by omega), a8, b5, t0]
      exact nI_ge (by show tot fs < l.length + 1 + tot fs; omega) (by omega)
    · rw [nI_clamp (by omega), e7]
      refine m195 (by decide) hx (kI_i ?_)
      have r6 := rnk_6 x
      unfold flu at q
      rw [nI_ltI (by omega) (by omega)]
      refine ⟨fun c => ?_, fun c => ?_⟩
      · rw [if_pos c] at q
        exact q I pj_fr_rf hX0 hs
      · rw [if_neg c] at q
        rw [e8, nI_clamp (by omega), e7]
        refine ⟨vp_in_nI (by omega) (by decide), ?_⟩
        have X1 : RX B pg ((kd, ph, bg, pa, l) :: fs) C o b (pj_u I 276 39 (nI (l.length + tot fs))) := by
          refine ⟨?_, a2, ?_, ?_, ?_, ?_, ?_, pj_u_e, ?_, ⟨?_, ?_, ?_, ?_, ?_, ?_, fun y hy => b7 y (List.mem_cons_of_mem _ hy), b8⟩, ?_⟩
          · rw [pj_u_j (by decide)]; exact a1
          · rw [pj_u_j (by decide)]; exact a3
          · rw [pj_u_j (by decide)]; exact a4
          · exact MC_fr (fun j _ _ => ⟨pj_u_n (by decide), pj_u_n (by decide)⟩) a5
          · rw [pj_u_j (by decide)]; exact a6
          · rw [pj_u_j (by decide)]; exact a7
          · rw [pj_u_j (by decide)]; exact a9
          · rw [pj_u_n (by decide)]; exact b1
          · rw [pj_u_n (by decide)]; exact b2
          · rw [pj_u_n (by decide)]; exact b3
          · intro z; rw [pj_u_n (by decide)]; exact b4 z
          · rw [pj_u_n (by decide)]; exact b5
          · exact OpM_fr (fun j _ => pj_u_n (by decide)) b6.2
          · exact FrM_fr (fun c j h1 h2 _ => pj_u_n (by omega)) (fun j _ => pj_u_n (by decide)) a10
        have w : nI x = nI (mtk (tkO x)) := by rw [(mtk_o x).1]
        rw [w]
        refine m192 (t := tkO x) (v := 0) (by decide) X1 (MS_u (by decide) (fun _ => by decide) hs) (by omega) (fun z => absurd z (mtk_o x).2) (fun I2 f2 X2 s2 k7 k9 k3 => kV_i ?_)
        have g2 : pj_fr (gM B) I I2 := pj_fr_tr (pj_fr_u pj_fr_rf rfl) f2
        have e9 : I2 276 39 = nI (l.length + tot fs) := k9.trans pj_u_e
        rw [e9, nI_clamp (by omega), k7, pj_u_n (by decide), e7]
        have e43 : (nI x = 43) ↔ x = 43 := nI_eq (b := 43) (by omega) (by decide)
        rw [e43]
        refine ⟨vp_in_nI (by omega) (by decide), fun c43 => ?_, fun c43 => ?_⟩
        · rw [if_neg c43] at q h6
          exact ih (C ++ [tkO x]) o I2 X2 s2 (by rw [List.length_append]; show C.length + 1 + l.length ≤ 1600; omega) (by omega) h5 (by omega) (fun I' f' => q I' (pj_fr_tr g2 f'))
        · rw [if_pos c43] at q h6
          have e37 : I2 276 37 - 1 = nI (o - 1) := by
            rw [X2.2.2.2.2.2.2.1]
            obtain ⟨o', rfl⟩ : ∃ k, o = k + 1 := ⟨o - 1, by omega⟩
            exact nI_pred _
          rw [e37]
          have X3 : RX B pg ((kd, ph, bg, pa, l) :: fs) (C ++ [tkO x]) (o - 1) b (pj_u I2 276 37 (nI (o - 1))) := by
            obtain ⟨a1, a2, a3, a4, a5, a6, a7, a8, a9, a10⟩ := X2
            exact ⟨(pj_u_j (by decide)).trans a1, a2, (pj_u_j (by decide)).trans a3, (pj_u_j (by decide)).trans a4, MC_fr (fun j _ _ => ⟨pj_u_n (by decide), pj_u_n (by decide)⟩) a5, (pj_u_j (by decide)).trans a6, pj_u_e, (pj_u_j (by decide)).trans a8, (pj_u_j (by decide)).trans a9, FrM_fr (fun c j h1 h2 _ => pj_u_n (by omega)) (fun j _ => pj_u_n (by decide)) a10⟩
          exact ih (C ++ [tkO x]) (o - 1) _ X3 (MS_u (by decide) (fun _ => by decide) s2) (by rw [List.length_append]; show C.length + 1 + l.length ≤ 1600; omega) (by omega) h5 (by omega) (fun I' f' => q I' (pj_fr_tr (pj_fr_u g2 rfl) f'))
end PMt
