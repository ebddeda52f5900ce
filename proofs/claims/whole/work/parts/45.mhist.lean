/-! the reference: what can be undone -/
section PMh
variable {n h : Nat} {Q : pj_K} {I : Nat → Nat → Int32} {J : Nat → Nat → Int64}
theorem su_1 {a : Nat} (h : 1 ≤ a) : nI a - 1 = nI (a - 1) := by
  show nI a - nI 1 = _
  rw [pk_sub h]
/-- PegCoatsModel.keeps -/
theorem s250 (hh : 2 ≤ h) {u ct m : Nat} (hu : I 276 52 = nI u) (hu2 : u < 20) (hc : I 276 53 = nI ct) (hc2 : ct ≤ 20) (hm : I 307 0 = nI m) (hm2 : m ≤ 40) (q1 : ct < 20 → ∀ I1, mcp (2 + (u + ct) % 20) 0 m I I1 → Q none (zc n, pj_u I1 276 53 (nI (ct + 1)), J))
    (q2 : ct = 20 → ∀ I1, mcp (2 + ((u + 1) % 20 + 19) % 20) 0 m (pj_u (pj_u I 276 52 (nI ((u + 1) % 20))) 276 53 (nI 19)) I1 → Q none (zc n, pj_u I1 276 53 (nI 20), J)) : pj_D h 250 [.ref 276] (zc n, I, J) Q := by
  refine pj_ent (g := 1) hh (t := mt_250) rfl rfl (v250_0 (pj_D_le 1) I J ?_)
  rw [hc, hu, nI_1, rm_20 (by omega)]
  have hx : ∀ a, 2 + a % 20 < 22 := fun a => by have := Nat.mod_lt a (show 20 > 0 by decide); omega
  refine ⟨fun c => ?_, fun c => ?_⟩
  · have hlt : ct < 20 := by
      rcases Nat.lt_or_ge ct 20 with z | z
      · exact z
      · obtain rfl : ct = 20 := by omega
        exact absurd rfl c
    refine s203 (Nat.le_refl 1) hu hu2 (by omega) (kI_i ?_)
    refine s204 (Nat.le_refl 1) (w := 0) (hx _) (by decide) (by omega) hm hm2 (fun I1 c1 => kV_i ?_)
    have e : I1 276 53 = nI ct := (c1.2.2.2.2.2.2.2.2.2.2 276 53 rfl).trans hc
    rw [e, nI_1]
    exact q1 hlt I1 c1
  · have h20 : ct = 20 := (nI_eq (b := 20) (by omega) (by decide)).mp c
    subst h20
    rw [su_1 (by omega)]
    refine s203 (Nat.le_refl 1) (u := (u + 1) % 20) (k := 19) ((pj_u_j (by decide)).trans pj_u_e) (Nat.mod_lt _ (by decide)) (by decide) (kI_i ?_)
    refine s204 (Nat.le_refl 1) (w := 0) (hx _) (by decide) (by omega) (((pj_u_n (by decide)).trans (pj_u_n (by decide))).trans hm) hm2 (fun I1 c1 => kV_i ?_)
    have e : I1 276 53 = nI 19 := (c1.2.2.2.2.2.2.2.2.2.2 276 53 rfl).trans pj_u_e
    rw [e, nI_1]
    exact q2 rfl I1 c1
/-- PegCoatsModel.undo -/
theorem s202 (hh : 2 ≤ h) {u ct m : Nat} (hu : I 276 52 = nI u) (hu2 : u < 20) (hc : I 276 53 = nI ct) (hc2 : ct ≤ 20) (hm : 0 < ct → I 307 (2 + (u + (ct - 1)) % 20) = nI m) (hm2 : m ≤ 40) (q0 : ct = 0 → Q (some (.int 0)) (zc n, pj_u I 298 4 (I 298 4 + 1), J))
    (q1 : 0 < ct → ∀ I1, mcp 0 (2 + (u + (ct - 1)) % 20) m (pj_u I 276 53 (nI (ct - 1))) I1 → Q (some (.int 1)) (zc n, I1, J)) : pj_D h 202 [.ref 276] (zc n, I, J) Q := by
  refine pj_ent (g := 1) hh (t := mt_202) rfl rfl (v202_0 (pj_D_le 1) I J ?_)
  rw [hc]
  have hx : ∀ a, 2 + a % 20 < 22 := fun a => by have := Nat.mod_lt a (show 20 > 0 by decide); omega
  refine ⟨fun c => ?_, fun c => ?_⟩
  · have hct : 0 < ct := by
      rcases Nat.eq_zero_or_pos ct with z | z
      · rw [z] at c; exact absurd rfl c
      · exact z
    rw [su_1 hct]
    refine s203 (Nat.le_refl 1) (u := u) (k := ct - 1) ((pj_u_j (by decide)).trans hu) hu2 (by omega) (kI_i ?_)
    refine s204 (Nat.le_refl 1) (v := 0) (by decide) (hx _) (by omega) ((pj_u_n (by decide)).trans (hm hct)) hm2 (fun I1 c1 => kV_i (q1 hct I1 c1))
  · have h0 : ct = 0 := (nI_eq (b := 0) (by omega) (by decide)).mp c
    exact s160 (Nat.le_refl 1) (k := 4) (by decide) (kI_i ⟨fun _ => q0 h0, fun z => absurd (by decide) z⟩)
end PMh
