/-! the tape -/
/-- byte j of an int, the highest first -/
def byv (v : Int32) (j : Nat) : Int32 := (v >>> (nI (24 - 8 * j) &&& 31)) &&& 255
/-- what is not named stays -/
def pj_fr {α : Type} (S : Nat → Nat → Bool) (I I' : Nat → Nat → α) : Prop := ∀ a j, S a j = false → I' a j = I a j
theorem pj_fr_rf {α : Type} {S : Nat → Nat → Bool} {I : Nat → Nat → α} : pj_fr S I I := fun _ _ _ => rfl
theorem pj_fr_tr {α : Type} {S : Nat → Nat → Bool} {I I' I'' : Nat → Nat → α} (h : pj_fr S I I') (h' : pj_fr S I' I'') : pj_fr S I I'' := fun a j ha => (h' a j ha).trans (h a j ha)
theorem pj_fr_w {α : Type} {S S' : Nat → Nat → Bool} {I I' : Nat → Nat → α} (h : pj_fr S I I') (hs : ∀ a j, S' a j = false → S a j = false) : pj_fr S' I I' := fun a j ha => h a j (hs a j ha)
theorem pj_fr_u {α : Type} {S : Nat → Nat → Bool} {I I' : Nat → Nat → α} {a k : Nat} {v : α} (h : pj_fr S I I') (ha : S a k = true) : pj_fr S I (pj_u I' a k v) := fun b j hb => by
  by_cases e : b = a
  · subst e
    have : j ≠ k := fun e => by rw [e, ha] at hb; cases hb
    exact (pj_u_j this).trans (h b j hb)
  · exact (pj_u_n e).trans (h b j hb)
section PTp
variable {n h : Nat} {Q : pj_K} {J : Nat → Nat → Int64}
theorem tp_step {C : pj_CT} (hC : pj_le C C) {I : Nat → Nat → Int32} {L : Nat} {v q : Int32} (hI : I 3 1 = nI L) (hL : L < 1600) (h0 : ¬ q < 0) (k : pj_R C ta mc_83 false Q 3 [some (.ref 3), some (.int v), some (.int (q + (-8)))] [] (zc n) (pj_u (pj_u I 4 L ((v >>> (q &&& 31)) &&& 255)) 3 1 (nI (L + 1))) J 0 0) :
    pj_R C ta mc_83 false Q 3 [some (.ref 3), some (.int v), some (.int q)] [] (zc n) I J 0 0 := by
  refine v83_3 hC I J v q ⟨fun c => absurd c h0, fun _ => ⟨fun c => ?_, fun _ => ⟨?_, ?_⟩⟩⟩
  · rw [hI] at c
    exact absurd c (nI_ge hL (by decide))
  · rw [hI]
    exact vp_in_nI hL (by decide)
  · rw [hI, nI_clamp (by omega), nI_1]
    exact k
/-- Tape.add -/
theorem s83 (hh : 1 ≤ h) {I : Nat → Nat → Int32} {L : Nat} {v : Int32} (hI : I 3 1 = nI L) (hL : L + 4 ≤ 1600)
    (k : ∀ I' : Nat → Nat → Int32, I' 3 1 = nI (L + 4) → (∀ j, j < 4 → I' 4 (L + j) = byv v j) → (∀ j, j < L → I' 4 j = I 4 j) → pj_fr (fun a j => a == 4 || a == 3 && j == 1) I I' → Q none (zc n, I', J)) : pj_D h 83 [.ref 3, .int v] (zc n, I, J) Q := by
  refine pj_ent (g := 0) hh (t := mt_83) rfl rfl (v83_0 (pj_D_le 0) I J v ?_)
  have hC := pj_D_le 0
  refine tp_step hC (L := L) hI (by omega) (by decide) ?_
  refine tp_step hC (L := L + 1) pj_u_e (by omega) (by decide) ?_
  refine tp_step hC (L := L + 2) pj_u_e (by omega) (by decide) ?_
  refine tp_step hC (L := L + 3) pj_u_e (by omega) (by decide) ?_
  refine v83_3 hC _ J v _ ⟨fun _ => k _ pj_u_e (fun j hj => ?_) (fun j hj => ?_) (pj_fr_u (pj_fr_u (pj_fr_u (pj_fr_u (pj_fr_u (pj_fr_u (pj_fr_u (pj_fr_u pj_fr_rf rfl) rfl) rfl) rfl) rfl) rfl) rfl) rfl), fun c => absurd (by decide) c⟩
  · have t1 : ∀ (F : Nat → Nat → Int32) (x w : Int32) (i k : Nat), i ≠ k → pj_u (pj_u F 4 k x) 3 1 w 4 i = F 4 i := fun F x w i k hi => by rw [pj_u_n (by decide), pj_u_j hi]
    have t2 : ∀ (F : Nat → Nat → Int32) (x w : Int32) (k : Nat), pj_u (pj_u F 4 k x) 3 1 w 4 k = x := fun F x w k => by rw [pj_u_n (by decide), pj_u_e]
    rcases j with _ | _ | _ | _ | j
    · rw [t1 _ _ _ _ _ (by omega), t1 _ _ _ _ _ (by omega), t1 _ _ _ _ _ (by omega)]; exact t2 _ _ _ _
    · rw [t1 _ _ _ _ _ (by omega), t1 _ _ _ _ _ (by omega)]; exact t2 _ _ _ _
    · rw [t1 _ _ _ _ _ (by omega)]; exact t2 _ _ _ _
    · exact t2 _ _ _ _
    · omega
  · have t1 : ∀ (F : Nat → Nat → Int32) (x w : Int32) (i k : Nat), i ≠ k → pj_u (pj_u F 4 k x) 3 1 w 4 i = F 4 i := fun F x w i k hi => by rw [pj_u_n (by decide), pj_u_j hi]
    rw [t1 _ _ _ _ _ (by omega), t1 _ _ _ _ _ (by omega), t1 _ _ _ _ _ (by omega), t1 _ _ _ _ _ (by omega)]
theorem tp_step' {C : pj_CT} (hC : pj_le C C) {I : Nat → Nat → Int32} {L : Nat} {v q : Int32} (hI : I 276 1 = nI L) (hL : L < 1600) (h0 : ¬ q < 0) (k : pj_R C ta mc_161 false Q 3 [some (.ref 276), some (.int v), some (.int (q + (-8)))] [] (zc n) (pj_u (pj_u I 277 L ((v >>> (q &&& 31)) &&& 255)) 276 1 (nI (L + 1))) J 0 0) :
    pj_R C ta mc_161 false Q 3 [some (.ref 276), some (.int v), some (.int q)] [] (zc n) I J 0 0 := by
  refine v161_3 hC I J v q ⟨fun c => absurd c h0, fun _ => ⟨?_, ?_⟩⟩
  · rw [hI]
    exact vp_in_nI (by omega) (by decide)
  · rw [hI, nI_clamp (by omega), nI_1]
    exact k
/-- PegCoatsModel.put(int) -/
theorem s161 (hh : 1 ≤ h) {I : Nat → Nat → Int32} {L : Nat} {v : Int32} (hI : I 276 1 = nI L) (hL : L + 4 ≤ 1600)
    (k : ∀ I' : Nat → Nat → Int32, I' 276 1 = nI (L + 4) → (∀ j, j < 4 → I' 277 (L + j) = byv v j) → (∀ j, j < L → I' 277 j = I 277 j) → pj_fr (fun a j => a == 277 || a == 276 && j == 1) I I' → Q none (zc n, I', J)) : pj_D h 161 [.ref 276, .int v] (zc n, I, J) Q := by
  refine pj_ent (g := 0) hh (t := mt_161) rfl rfl (v161_0 (pj_D_le 0) I J v ?_)
  have hC := pj_D_le 0
  refine tp_step' hC (L := L) hI (by omega) (by decide) ?_
  refine tp_step' hC (L := L + 1) pj_u_e (by omega) (by decide) ?_
  refine tp_step' hC (L := L + 2) pj_u_e (by omega) (by decide) ?_
  refine tp_step' hC (L := L + 3) pj_u_e (by omega) (by decide) ?_
  refine v161_3 hC _ J v _ ⟨fun _ => k _ pj_u_e (fun j hj => ?_) (fun j hj => ?_) (pj_fr_u (pj_fr_u (pj_fr_u (pj_fr_u (pj_fr_u (pj_fr_u (pj_fr_u (pj_fr_u pj_fr_rf rfl) rfl) rfl) rfl) rfl) rfl) rfl) rfl), fun c => absurd (by decide) c⟩
  · have t1 : ∀ (F : Nat → Nat → Int32) (x w : Int32) (i k : Nat), i ≠ k → pj_u (pj_u F 277 k x) 276 1 w 277 i = F 277 i := fun F x w i k hi => by rw [pj_u_n (by decide), pj_u_j hi]
    have t2 : ∀ (F : Nat → Nat → Int32) (x w : Int32) (k : Nat), pj_u (pj_u F 277 k x) 276 1 w 277 k = x := fun F x w k => by rw [pj_u_n (by decide), pj_u_e]
    rcases j with _ | _ | _ | _ | j
    · rw [t1 _ _ _ _ _ (by omega), t1 _ _ _ _ _ (by omega), t1 _ _ _ _ _ (by omega)]; exact t2 _ _ _ _
    · rw [t1 _ _ _ _ _ (by omega), t1 _ _ _ _ _ (by omega)]; exact t2 _ _ _ _
    · rw [t1 _ _ _ _ _ (by omega)]; exact t2 _ _ _ _
    · exact t2 _ _ _ _
    · omega
  · have t1 : ∀ (F : Nat → Nat → Int32) (x w : Int32) (i k : Nat), i ≠ k → pj_u (pj_u F 277 k x) 276 1 w 277 i = F 277 i := fun F x w i k hi => by rw [pj_u_n (by decide), pj_u_j hi]
    rw [t1 _ _ _ _ _ (by omega), t1 _ _ _ _ _ (by omega), t1 _ _ _ _ _ (by omega), t1 _ _ _ _ _ (by omega)]
end PTp
