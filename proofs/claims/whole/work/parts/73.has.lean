/-! has, letter -/
/-- how many bits -/
def bcx (x : Int32) : Int32 :=
  let u (a b : Int32) : Int32 := (a.toUInt32 >>> (b.toUInt32 &&& Int32.toUInt32 31)).toInt32
  let x1 := x - (u x 1 &&& 1431655765)
  let x2 := (x1 &&& 858993459) + (u x1 2 &&& 858993459)
  let x3 := (x2 + u x2 4) &&& 252645135
  let x4 := x3 + u x3 8
  let x5 := x4 + u x4 16
  x5 &&& 63
def popc (x : Nat) : Nat := cu (fun k => x.testBit k) 8
theorem bcx_ok : ∀ x, x < 256 → bcx (nI x) = nI (popc x) := by decide +kernel
theorem popc_bs {p : Nat → Bool} {m : Nat} (hm : m ≤ 8) : popc (bs p m) = cu p m := by
  unfold popc
  have key : ∀ r k, r + k = 8 → k ≤ m ∨ True → cu (fun k => (bs p m).testBit k) 8 = cu (fun k => decide (k < m) && p k) 8 := fun _ _ _ _ => cu_cong (fun j _ => bs_bit p m j)
  rw [key 8 0 rfl (Or.inr trivial)]
  have tail : ∀ k, m ≤ k → cu (fun k => decide (k < m) && p k) k = cu p m := by
    intro k hk
    induction k with
    | zero =>
      obtain rfl : m = 0 := by omega
      rfl
    | succ k ih =>
      rcases Nat.lt_or_ge k m with c | c
      · obtain rfl : m = k + 1 := by omega
        exact cu_cong (fun j hj => by rw [decide_eq_true hj, Bool.true_and])
      · have e : cu (fun k => decide (k < m) && p k) (k + 1) = cu (fun k => decide (k < m) && p k) k + (match decide (k < m) && p k with | true => 1 | false => 0) := rfl
        rw [e, decide_eq_false (by omega), Bool.false_and, ih c]
        rfl
  exact tail 8 hm
/-- as many coats on men as men with coats -/
theorem popc_wS {w : Nat → Option Nat} : ∀ {m : Nat}, m ≤ 7 → (∀ j c, j < m → w j = some c → c < 8) → (∀ j k c, j < m → k < m → w j = some c → w k = some c → j = k) → popc (wS w m) = cu (fun k => (w k).isSome) m
  | 0, _, _, _ => by show popc 0 = 0; decide
  | m + 1, hm, h1, h2 => by
    have ih := popc_wS (m := m) (by omega) (fun j c hj => h1 j c (by omega)) (fun j k c hj hk => h2 j k c (by omega) (by omega))
    have ec : cu (fun k => (w k).isSome) (m + 1) = cu (fun k => (w k).isSome) m + (match (w m).isSome with | true => 1 | false => 0) := rfl
    rw [ec]
    unfold wS
    cases e : w m with
    | none =>
      simp only [Nat.or_zero, Option.isSome_none]
      exact ih
    | some c =>
      have hc := h1 m c (by omega) e
      have hn : (wS w m).testBit c = false := by
        rw [wS_bit]
        cases e2 : ff (fun j => decide (w j = some c)) m 0 with
        | none => rfl
        | some j =>
          have := ff_some e2
          have := h2 j m c (by omega) (by omega) (of_decide_eq_true this.2.2) e
          omega
      simp only [Option.isSome_some]
      rw [← ih]
      unfold popc
      have key : ∀ k, k ≤ 8 → cu (fun k => (wS w m ||| 2 ^ c).testBit k) k = cu (fun k => (wS w m).testBit k) k + (if c < k then 1 else 0) := by
        intro k hk
        induction k with
        | zero => rfl
        | succ k ihk =>
          have ihk := ihk (by omega)
          show cu (fun k => (wS w m ||| 2 ^ c).testBit k) k + (match (wS w m ||| 2 ^ c).testBit k with | true => 1 | false => 0) = cu (fun k => (wS w m).testBit k) k + (match (wS w m).testBit k with | true => 1 | false => 0) + _
          rw [ihk, Nat.testBit_or, Nat.testBit_two_pow]
          by_cases d : c = k
          · subst d
            rw [hn, decide_eq_true rfl, if_neg (by omega), if_pos (by omega)]
            rfl
          · rw [decide_eq_false d, Bool.or_false]
            by_cases d2 : c < k
            · rw [if_pos d2, if_pos (by omega)]; omega
            · rw [if_neg d2, if_neg (by omega)]; omega
      rw [key 8 (Nat.le_refl _), if_pos hc]
def hasV (A : Ab) (p : Int32) : Int32 := if p = 0 then nI A.W.nc else if p = 1 then nI A.W.nm else if p = 2 then nI A.L.yr else if p = 3 then nI (cu A.L.the A.W.nm) else if p = 4 then nI (cu (fun k => (A.L.wor k).isSome) A.W.nm) else if p = 5 then nI (cu (peg A.W A.L) A.W.nc) else if p = 6 then nI (cu A.L.bur A.W.nc) else if p = 7 then nI (tld A.kp.1) else if p = 8 then nI A.rw.1 else if p = 9 then nI A.hs.1 else if p = 10 then nI A.sd else -1
section PHs
variable {n h : Nat} {Q : pj_K} {I : Nat → Nat → Int32} {J : Nat → Nat → Int64} {A : Ab}
theorem s54 (hh : 1 ≤ h) {x : Nat} (hx : x < 256) (q : Q (some (.int (nI (popc x)))) (zc n, I, J)) : pj_D h 54 [.int (nI x)] (zc n, I, J) Q := by
  rw [← bcx_ok x hx] at q
  exact pj_ent (g := 0) hh (t := mt_54) rfl rfl (pj_go (pj_D_le 0) (fun pc => false) 3000 q)
/-- PegCoats.has -/
theorem c117 (hh : 3 ≤ h) {p : Int32} (hA : AV A) (hI : InvC A I) (q : Q (some (.int (hasV A p))) (zc n, I, J)) : pj_D h 117 [.ref 2, .int p] (zc n, I, J) Q := by
  have h7 := hA.2.2.1
  have h8 := hA.2.1
  have hV := hA.2.2.2.1
  obtain ⟨a1, a2, a3, a4, ⟨nx, c1, c2, c3, c4⟩, a6, a7, a8, a9, a10, a11⟩ := hI
  refine pj_ent (g := 2) hh (t := mt_117) rfl rfl (v117_0 (pj_D_le 2) I J _ ?_)
  rw [a2.1.2.2.1, a2.1.2.2.2.1, a3.1, a9.1, c3, a7]
  unfold hasV at q
  have wl : ∀ j c, j < A.W.nm → A.L.wor j = some c → c < 8 := fun j c hj e => by have := (hV.2.2.2.1 j c hj e).1; omega
  refine ⟨fun c => by rw [if_pos c] at q; exact q, fun d0 => ?_⟩
  rw [if_neg d0] at q
  refine ⟨fun c => by rw [if_pos c] at q; exact q, fun d1 => ?_⟩
  rw [if_neg d1] at q
  refine ⟨fun c => by rw [if_pos c] at q; exact q, fun d2 => ?_⟩
  rw [if_neg d2] at q
  refine ⟨fun c => ?_, fun d3 => ?_⟩
  · rw [if_pos c] at q
    refine s72 (by decide) h7 (kI_i ?_)
    rw [cu_cong (p' := A.L.the) (fun j hj => by rw [(a3.2.2 j hj).2.2.2.2]; cases A.L.the j <;> rfl)]
    exact q
  rw [if_neg d3] at q
  refine ⟨fun c => ?_, fun d4 => ?_⟩
  · rw [if_pos c] at q
    refine s73 (by decide) (a := 35) (w := A.L.wor) (by decide) h7 (fun k hk => (a3.2.2 k hk).2.2.1) wl (kI_i (s54 (by decide) (wS_lt wl) (kI_i ?_)))
    rw [popc_wS h7 wl hV.2.2.2.2]
    exact q
  rw [if_neg d4] at q
  refine ⟨fun c => ?_, fun d5 => ?_⟩
  · rw [if_pos c] at q
    refine s74 (by decide) (a := 35) (w := A.L.wor) (bu := A.L.bur) (by decide) h7 h8 a2.1.2.2.1 a2.1.2.2.2.1 (fun k hk => (a3.2.2 k hk).2.2.1) (fun k hk => (a3.2.1 k hk).2) wl (kI_i (s54 (by decide) ?_ (kI_i ?_)))
    · exact Nat.lt_of_lt_of_le (bs_lt _ _) (Nat.pow_le_pow_right (n := 2) (by decide) h8)
    · rw [popc_bs h8]
      exact q
  rw [if_neg d5] at q
  refine ⟨fun c => ?_, fun d6 => ?_⟩
  · rw [if_pos c] at q
    refine s75 (by decide) h8 (kI_i ?_)
    rw [cu_cong (p' := A.L.bur) (fun j hj => by rw [(a3.2.1 j hj).2]; cases A.L.bur j <;> rfl)]
    exact q
  rw [if_neg d6] at q
  refine ⟨fun c => ?_, fun d7 => ?_⟩
  · rw [if_pos c] at q
    exact s118 (by decide) a4.2.1 a4.1 (kI_i q)
  rw [if_neg d7] at q
  refine ⟨fun c => by rw [if_pos c] at q; exact q, fun d8 => ?_⟩
  rw [if_neg d8] at q
  refine ⟨fun c => by rw [if_pos c] at q; exact q, fun d9 => ?_⟩
  rw [if_neg d9] at q
  refine ⟨fun c => by rw [if_pos c] at q; exact q, fun d10 => ?_⟩
  rw [if_neg d10] at q
  exact q
/-- PegCoatsModel.has -/
theorem m205 (hh : 3 ≤ h) {p : Int32} (hA : AV A) (hI : InvM A I J) (q : Q (some (.int (hasV A p))) (zc n, I, J)) : pj_D h 205 [.ref 276, .int p] (zc n, I, J) Q := by
  have h7 := hA.2.2.1
  have h8 := hA.2.1
  have hV := hA.2.2.2.1
  obtain ⟨a1, ⟨B, b1, b2⟩, a3, a4, ⟨u, c1, c2, c3, c4⟩, a6, a7, a8, a9, a10, a11⟩ := hI
  have hB2 := b2.1.2.2.1
  have iB := vp_in_nI (n := B) hB2 (by decide)
  have eB : (nI B).toNatClampNeg = B := nI_clamp (by omega)
  have z0 : ∀ x : Nat, nI x + 0 = nI x := fun x => nI_add x 0
  refine pj_ent (g := 2) hh (t := mt_205) rfl rfl (v205_0 (pj_D_le 2) I J _ ?_)
  rw [b1, eB, b2.1.2.2.2.1, b2.1.2.2.2.2.1, a3.1, a9.1, c3, a7, a4.1]
  unfold hasV at q
  refine ⟨fun c => by rw [if_pos c] at q; exact ⟨iB, q⟩, fun d0 => ?_⟩
  rw [if_neg d0] at q
  refine ⟨fun c => by rw [if_pos c] at q; exact ⟨iB, q⟩, fun d1 => ?_⟩
  rw [if_neg d1] at q
  refine ⟨fun c => by rw [if_pos c] at q; exact q, fun d2 => ?_⟩
  rw [if_neg d2] at q
  refine ⟨fun c => ?_, fun d3 => ?_⟩
  · rw [if_pos c] at q
    suffices loop : ∀ r k, r + k = A.W.nm → pj_R (pj_D 2) ta mc_205 false Q 89 [some (.ref 276), none, some (.int (nI (cu A.L.the k))), some (.int (nI k))] [] (zc n) I J 0 0 from loop A.W.nm 0 (by omega)
    intro r
    induction r with
    | zero =>
      intro k hk
      obtain rfl : k = A.W.nm := by omega
      refine v205_89 (pj_D_le 2) I J _ _ ?_
      rw [b1, eB, b2.1.2.2.2.2.1]
      exact ⟨iB, br_t (nI_le (Nat.le_refl _) (by omega)) q⟩
    | succ r ih =>
      intro k hk
      have ih := ih (k + 1) (by omega)
      have e1 : cu A.L.the (k + 1) = cu A.L.the k + (match A.L.the k with | true => 1 | false => 0) := rfl
      rw [e1] at ih
      obtain ⟨G, g1, g2, g3⟩ := a3.2.2.1
      refine v205_89 (pj_D_le 2) I J _ _ ?_
      rw [b1, eB, b2.1.2.2.2.2.1, z0, nI_1, nI_1]
      refine ⟨iB, br_f (nI_ge (by omega) (by omega)) (s206 (by decide) (v := 0) (by decide) g1 (by omega) (by omega) (kI_i ?_))⟩
      rw [g3 k (by omega), Bool.not_not]
      cases e : A.L.the k with
      | true => rw [e] at ih; exact ⟨fun z => absurd z (by decide), fun _ => ih⟩
      | false => rw [e] at ih; exact ⟨fun _ => ih, fun z => absurd rfl z⟩
  rw [if_neg d3] at q
  refine ⟨fun c => ?_, fun d4 => ?_⟩
  · rw [if_pos c] at q
    suffices loop : ∀ r k, r + k = A.W.nm → pj_R (pj_D 2) ta mc_205 false Q 129 [some (.ref 276), none, some (.int (nI (cu (fun k => (A.L.wor k).isSome) k))), some (.int (nI k))] [] (zc n) I J 0 0 from loop A.W.nm 0 (by omega)
    intro r
    induction r with
    | zero =>
      intro k hk
      obtain rfl : k = A.W.nm := by omega
      refine v205_129 (pj_D_le 2) I J _ _ ?_
      rw [b1, eB, b2.1.2.2.2.2.1]
      exact ⟨iB, br_t (nI_le (Nat.le_refl _) (by omega)) q⟩
    | succ r ih =>
      intro k hk
      have ih := ih (k + 1) (by omega)
      have e1 : cu (fun k => (A.L.wor k).isSome) (k + 1) = cu (fun k => (A.L.wor k).isSome) k + (match (A.L.wor k).isSome with | true => 1 | false => 0) := rfl
      rw [e1] at ih
      have l := (a3.2.2.2.2 k (by omega)).2.2.1
      rw [Nat.mul_zero, Nat.zero_add] at l
      refine v205_129 (pj_D_le 2) I J _ _ ?_
      rw [b1, eB, b2.1.2.2.2.2.1, z0, nI_1, nI_1, nI_clamp (n := k) (by omega), l]
      refine ⟨iB, br_f (nI_ge (by omega) (by omega)) ⟨pk_in k 154 (by omega), ?_⟩⟩
      have hwn := wo_none (o := A.L.wor k) (fun c' e' => by have := (hV.2.2.2.1 k c' (by omega) e').1; omega)
      cases e : A.L.wor k with
      | none => rw [e] at ih; exact ⟨fun z => absurd rfl z, fun _ => ih⟩
      | some c => rw [e] at ih hwn; exact ⟨fun _ => ih, fun z => (by have := hwn.mp z; cases this)⟩
  rw [if_neg d4] at q
  refine ⟨fun c => ?_, fun d5 => ?_⟩
  · rw [if_pos c] at q
    suffices loop : ∀ r k, r + k = A.W.nc → pj_R (pj_D 2) ta mc_205 false Q 170 [some (.ref 276), none, some (.int (nI (cu (peg A.W A.L) k))), some (.int (nI k))] [] (zc n) I J 0 0 from loop A.W.nc 0 (by omega)
    intro r
    induction r with
    | zero =>
      intro k hk
      obtain rfl : k = A.W.nc := by omega
      refine v205_170 (pj_D_le 2) I J _ _ ?_
      rw [b1, eB, b2.1.2.2.2.1]
      exact ⟨iB, br_t (nI_le (Nat.le_refl _) (by omega)) q⟩
    | succ r ih =>
      intro k hk
      have ih := ih (k + 1) (by omega)
      have e1 : cu (peg A.W A.L) (k + 1) = cu (peg A.W A.L) k + (match peg A.W A.L k with | true => 1 | false => 0) := rfl
      rw [e1] at ih
      refine v205_170 (pj_D_le 2) I J _ _ ?_
      rw [b1, eB, b2.1.2.2.2.1, z0, nI_1, nI_1]
      refine ⟨iB, br_f (nI_ge (by omega) (by omega)) (s208p (by decide) (v := 0) (by decide) b1 b2.1 a3 hV (by omega) (kI_i ?_))⟩
      cases e : peg A.W A.L k with
      | true => rw [e] at ih; exact ⟨fun z => absurd z (by decide), fun _ => ih⟩
      | false => rw [e] at ih; exact ⟨fun _ => ih, fun z => absurd rfl z⟩
  rw [if_neg d5] at q
  refine ⟨fun c => ?_, fun d6 => ?_⟩
  · rw [if_pos c] at q
    suffices loop : ∀ r k, r + k = A.W.nc → pj_R (pj_D 2) ta mc_205 false Q 210 [some (.ref 276), none, some (.int (nI (cu A.L.bur k))), some (.int (nI k))] [] (zc n) I J 0 0 from loop A.W.nc 0 (by omega)
    intro r
    induction r with
    | zero =>
      intro k hk
      obtain rfl : k = A.W.nc := by omega
      refine v205_210 (pj_D_le 2) I J _ _ ?_
      rw [b1, eB, b2.1.2.2.2.1]
      exact ⟨iB, br_t (nI_le (Nat.le_refl _) (by omega)) q⟩
    | succ r ih =>
      intro k hk
      have ih := ih (k + 1) (by omega)
      have e1 : cu A.L.bur (k + 1) = cu A.L.bur k + (match A.L.bur k with | true => 1 | false => 0) := rfl
      rw [e1] at ih
      obtain ⟨S, g1, g2, g3⟩ := a3.2.1
      refine v205_210 (pj_D_le 2) I J _ _ ?_
      rw [b1, eB, b2.1.2.2.2.1, z0, nI_1, nI_1, g1]
      refine ⟨iB, br_f (nI_ge (by omega) (by omega)) (s207 (by decide) (by omega) (by omega) (kI_i ?_))⟩
      rw [g3 k (by omega)]
      cases e : A.L.bur k with
      | true => rw [e] at ih; exact ⟨fun z => absurd z (by decide), fun _ => ih⟩
      | false => rw [e] at ih; exact ⟨fun _ => ih, fun z => absurd rfl z⟩
  rw [if_neg d6] at q
  refine ⟨fun c => by rw [if_pos c] at q; exact q, fun d7 => ?_⟩
  rw [if_neg d7] at q
  refine ⟨fun c => by rw [if_pos c] at q; exact q, fun d8 => ?_⟩
  rw [if_neg d8] at q
  refine ⟨fun c => by rw [if_pos c] at q; exact q, fun d9 => ?_⟩
  rw [if_neg d9] at q
  refine ⟨fun c => by rw [if_pos c] at q; rw [← iL_n, iL_i]; exact q, fun d10 => ?_⟩
  rw [if_neg d10] at q
  exact q
end PHs
