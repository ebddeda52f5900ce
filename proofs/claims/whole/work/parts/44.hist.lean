/-! what can be undone: the ring of the class, the ring of the reference -/
theorem hs_R : ∀ k, k < 20 → zR 60 k = some (61 + 8 * k) := by decide +kernel
theorem hs_K : ∀ k, k < 20 → zK (61 + 8 * k) = 7 := by decide +kernel
theorem hs_to : ∀ k, k < 20 → (61 + 8 * k, 35) ∈ cpP := by decide +kernel
theorem hs_from : ∀ k, k < 20 → (35, 61 + 8 * k) ∈ cpP := by decide +kernel
theorem rm_20 {a : Nat} (h : a < 2 ^ 31) : nI a - nI a / 20 * 20 = nI (a % 20) := pk_rem (d := 20) h (by decide) (by decide)
section PHi
variable {n h : Nat} {Q : pj_K} {I : Nat → Nat → Int32} {J : Nat → Nat → Int64}
theorem s9 (hh : 1 ≤ h) (q : Q none (zc n, pj_u I 59 1 0, J)) : pj_D h 9 [.ref 59] (zc n, I, J) Q :=
  pj_ent (g := 0) hh (t := mt_9) rfl rfl (v9_0 (pj_D_le 0) I J q)
/-- History.save -/
theorem s10 (hh : 2 ≤ h) {nx ct : Nat} (h2 : I 59 2 = nI nx) (hn : nx < 20) (h1 : I 59 1 = nI ct) (hc : ct ≤ 20) (q : ∀ I1, lcp (61 + 8 * nx) 35 I I1 → Q none (zc n, pj_u (pj_u I1 59 2 (nI ((nx + 1) % 20))) 59 1 (nI (if ct + 1 < 20 then ct + 1 else 20)), J)) : pj_D h 10 [.ref 59, .ref 35] (zc n, I, J) Q := by
  refine pj_ent (g := 1) hh (t := mt_10) rfl rfl (v10_0 (pj_D_le 1) I J ?_)
  rw [h2, nI_clamp (n := nx) (by omega), hs_R nx hn]
  refine ⟨vp_in_nI hn (by decide), rfl, ?_, ?_⟩
  · show Nat.beq (zK (61 + 8 * nx)) 7 = true
    rw [hs_K nx hn]
    rfl
  · refine s77 (Nat.le_refl 1) (hs_to nx hn) (fun I1 c1 => kV_i ?_)
    have q := q I1 c1
    have hS : ∀ j, lS (61 + 8 * nx) 59 j = false := fun j => by
      unfold lS
      rw [show Nat.ble (61 + 8 * nx + 1) 59 = false by rw [← Bool.not_eq_true, Nat.ble_eq]; omega, show (59 == 61 + 8 * nx) = false by rw [beq_eq_false_iff_ne]; omega]
      rfl
    have e2 : I1 59 2 = nI nx := (c1.2.2.2.2.2.2.2.2.2 59 2 (hS 2)).trans h2
    have e1 : I1 59 1 = nI ct := (c1.2.2.2.2.2.2.2.2.2 59 1 (hS 1)).trans h1
    rw [e2, e1, nI_1, nI_1, rm_20 (by omega)]
    have ei : (if nI (ct + 1) < 20 then nI (ct + 1) else 20) = nI (if ct + 1 < 20 then ct + 1 else 20) := by
      show (if nI (ct + 1) < nI 20 then nI (ct + 1) else nI 20) = _
      by_cases c : ct + 1 < 20
      · rw [if_pos c, if_pos ((nI_ltI (by omega) (by decide)).mpr c)]
      · rw [if_neg c, if_neg (fun z => c ((nI_ltI (by omega) (by decide)).mp z))]
    rw [ei]
    exact q
/-- History.takeBack -/
theorem s11 (hh : 2 ≤ h) {nx ct : Nat} (h2 : I 59 2 = nI nx) (hn : nx < 20) (h1 : I 59 1 = nI ct) (hc : ct ≤ 20) (q0 : ct = 0 → Q (some (.int 0)) (zc n, I, J)) (q1 : 0 < ct → ∀ I1, lcp 35 (61 + 8 * ((nx + 19) % 20)) (pj_u (pj_u I 59 2 (nI ((nx + 19) % 20))) 59 1 (nI (ct - 1))) I1 → Q (some (.int 1)) (zc n, I1, J)) : pj_D h 11 [.ref 59, .ref 35] (zc n, I, J) Q := by
  refine pj_ent (g := 1) hh (t := mt_11) rfl rfl (v11_0 (pj_D_le 1) I J ?_)
  have hx : (nx + 19) % 20 < 20 := Nat.mod_lt _ (by decide)
  have e20 : nI nx + 20 - 1 = nI (nx + 19) := by
    show nI nx + nI 20 - nI 1 = _
    rw [nI_add, pk_sub (by omega)]
    congr 1
  rw [h2, h1, e20, rm_20 (by omega), nI_clamp (n := (nx + 19) % 20) (by omega), hs_R _ hx]
  refine ⟨fun c => ?_, fun c => q0 ((nI_eq (b := 0) (by omega) (by decide)).mp c)⟩
  have hct : 0 < ct := by
    rcases Nat.eq_zero_or_pos ct with z | z
    · rw [z] at c; exact absurd rfl c
    · exact z
  refine ⟨vp_in_nI hx (by decide), rfl, ?_⟩
  have e1 : nI ct - 1 = nI (ct - 1) := by
    show nI ct - nI 1 = _
    rw [pk_sub hct]
  rw [e1]
  exact s77 (Nat.le_refl 1) (hs_from _ hx) (fun I1 c1 => kV_i (q1 hct I1 c1))
/-- PegCoatsModel.slot -/
theorem s203 (hh : 1 ≤ h) {u k : Nat} (hu : I 276 52 = nI u) (hu2 : u < 20) (hk : k < 100) (q : Q (some (.int (nI (2 + (u + k) % 20)))) (zc n, I, J)) : pj_D h 203 [.ref 276, .int (nI k)] (zc n, I, J) Q := by
  refine pj_ent (g := 0) hh (t := mt_203) rfl rfl (v203_0 (pj_D_le 0) I J _ ?_)
  rw [hu, nI_add, rm_20 (by omega)]
  show Q (some (.int (nI 2 + nI ((u + k) % 20)))) _
  rw [nI_add]
  exact q
end PHi
