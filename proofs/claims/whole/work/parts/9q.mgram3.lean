/-! sums and tests by steps: parts, facts, levels -/
section PSn
variable {T : Nat → Sg} {n pg : Nat} {G : Cf → Prop} {E : Nat × Nat → Prop} {DN : List Tk → Nat → Prop}
theorem SpS_m {X : Pz} {r o N N' L L' : Nat} (hN : N ≤ N') (hL : L ≤ L') (h : SpS T G E X r o N L) : SpS T G E X r o N' L' := fun kd ph bg pa os fs C p h1 h2 h3 h4 h5 he hk => h kd ph bg pa os fs C p h1 h2 h3 (by omega) (by omega) he (fun c p' e C' pd g1 g2 g3 => hk c p' e C' pd g1 g2 (by omega))
theorem SpT_m {X : Pz} {r q o N N' L L' : Nat} (hN : N ≤ N') (hL : L ≤ L') (h : SpT T G E X r q o N L) : SpT T G E X r q o N' L' := fun kd pa os fs C p h1 h3 h4 h5 he hk => h kd pa os fs C p h1 h3 (by omega) (by omega) he (fun c p' e C' pd ph g0 g1 g2 g3 => hk c p' e C' pd ph g0 g1 g2 (by omega))
theorem chC {S : Pz} {k o N L pa p : Nat} {F : Fr} {fs : List Fr} {C : List Tk} (cG : ClG T G E DN) (ks : Ks T) (hko : k + o = 7) (hpa : pa = 36 ∨ pa = 37) (es : eSm T S) (hS : ∀ k', k = k' + 1 → SpS T G E S 5 (o + 1) N L) (hb : tot (F :: fs) + N ≤ 490) (hl : fs.length + 1 + L ≤ 17) (he : ∀ e, chz T k S (2, pa) p = .error e → E e) (hk : ∀ c q, chz T k S (2, pa) p = .ok (c, q) → G (F :: fs, C ++ c, o, q, true)) : chI T G E 3 pa (F :: fs) C o p := by
  unfold chI
  unfold chz at he hk
  by_cases c4 : (T p).k = 4
  · rw [if_pos c4]
    rw [isS_nk (by omega)] at he
    exact he _ rfl
  · rw [if_neg c4]
    cases e40 : isS (T p) 40 with
    | false =>
      rw [e40] at he
      rw [if_neg (by decide)]
      have t := he _ rfl
      rw [ks _ c4] at t
      exact t
    | true =>
      rw [e40] at he hk
      rw [if_pos rfl]
      unfold opz
      by_cases o7 : o = 7
      · rw [if_pos o7]
        obtain rfl : k = 0 := by omega
        exact he _ rfl
      · rw [if_neg o7]
        obtain ⟨k', rfl⟩ : ∃ k', k = k' + 1 := ⟨k - 1, by omega⟩
        have hS := hS k' rfl
        have u : (opn T (k' + 1) p (bd (S (T p).nx) fun a => bd (exS T 44 a.2) fun q => bd (S q) fun b => bd (exS T 41 b.2) fun q => .ok (a.1 ++ b.1 ++ [(2, pa)], q))) = bd (bd (S (T p).nx) fun r => bd (exS T 44 r.2) fun q => .ok (r.1, q)) fun u => bd (bd (S u.2) fun r => bd (exS T 41 r.2) fun q => .ok (r.1, q)) fun w => .ok (u.1 ++ w.1 ++ [(2, pa)], w.2) := by
          show bd (S (T p).nx) _ = _
          simp only [bd_bd, bd_o]
        have he : ∀ e, (bd (bd (S (T p).nx) fun r => bd (exS T 44 r.2) fun q => .ok (r.1, q)) fun u => bd (bd (S u.2) fun r => bd (exS T 41 r.2) fun q => .ok (r.1, q)) fun w => .ok (u.1 ++ w.1 ++ [(2, pa)], w.2)) = Except.error e → E e := fun e z => he e (u.trans z)
        have hk : ∀ c q, (bd (bd (S (T p).nx) fun r => bd (exS T 44 r.2) fun q => .ok (r.1, q)) fun u => bd (bd (S u.2) fun r => bd (exS T 41 r.2) fun q => .ok (r.1, q)) fun w => .ok (u.1 ++ w.1 ++ [(2, pa)], w.2)) = Except.ok (c, q) → G (F :: fs, C ++ c, o, q, true) := fun c q z => hk c q (u.trans z)
        refine frS (c0 := 44) cG ks es hS rfl (Or.inl ⟨rfl, rfl⟩) hb hl (fun e e1 => he e (by rw [e1]; rfl)) (fun c q e1 => ⟨fun _ => ?_, fun z => absurd rfl z⟩)
        rw [e1] at he hk
        refine frS (c0 := 41) cG ks es hS rfl (Or.inr ⟨by decide, by decide, by decide, by decide, rfl⟩) hb hl (fun e e2 => he e (by show bd (bd (S q) _) _ = _; rw [e2]; rfl)) (fun c2 q2 e2 => ⟨fun z => absurd z (by decide), fun _ => ?_⟩)
        rw [if_pos rfl]
        have t := hk (c ++ c2 ++ [(2, pa)]) q2 (by show bd (bd (S q) _) _ = _; rw [e2]; rfl)
        have e3 : tkO pa = (2, pa) := by rcases hpa with rfl | rfl <;> decide
        rw [e3]
        have e4 : C ++ c ++ c2 ++ [(2, pa)] = C ++ (c ++ c2 ++ [(2, pa)]) := by simp
        rw [e4]
        exact t
theorem chF {S Te : Pz} {k o N L p : Nat} {F : Fr} {fs : List Fr} {C : List Tk} (cG : ClG T G E DN) (ks : Ks T) (hko : k + o = 7) (es : eSm T S) (et : eTs T Te) (hS : ∀ k', k = k' + 1 → SpS T G E S 5 (o + 1) N L) (hTe : ∀ k', k = k' + 1 → SpT T G E Te 1 1 (o + 1) N L) (hb : tot (F :: fs) + N ≤ 490) (hl : fs.length + 1 + L ≤ 17) (he : ∀ e, iff T k S Te p = .error e → E e) (hk : ∀ c q, iff T k S Te p = .ok (c, q) → G (F :: fs, C ++ c, o, q, true)) : chI T G E 6 44 (F :: fs) C o p := by
  unfold chI
  unfold iff at he hk
  by_cases c4 : (T p).k = 4
  · rw [if_pos c4]
    rw [isS_nk (by omega)] at he
    exact he _ rfl
  · rw [if_neg c4]
    cases e40 : isS (T p) 40 with
    | false =>
      rw [e40] at he
      rw [if_neg (by decide)]
      have t := he _ rfl
      rw [ks _ c4] at t
      exact t
    | true =>
      rw [e40] at he hk
      rw [if_pos rfl]
      unfold opz
      by_cases o7 : o = 7
      · rw [if_pos o7]
        obtain rfl : k = 0 := by omega
        exact he _ rfl
      · rw [if_neg o7]
        obtain ⟨k', rfl⟩ : ∃ k', k = k' + 1 := ⟨k - 1, by omega⟩
        have hS := hS k' rfl
        have hTe := hTe k' rfl
        have u : (opn T (k' + 1) p (bd (Te (T p).nx) fun c => bd (exS T 44 c.2) fun q => bd (S q) fun a => bd (exS T 44 a.2) fun q => bd (S q) fun b => bd (exS T 41 b.2) fun q => .ok (c.1 ++ (a.1 ++ (b.1 ++ [(4, 0)])), q))) = bd (bd (Te (T p).nx) fun r => bd (exS T 44 r.2) fun q => .ok (r.1, q)) fun u => bd (bd (S u.2) fun r => bd (exS T 44 r.2) fun q => .ok (r.1, q)) fun w => bd (bd (S w.2) fun r => bd (exS T 41 r.2) fun q => .ok (r.1, q)) fun y => .ok (u.1 ++ (w.1 ++ (y.1 ++ [(4, 0)])), y.2) := by
          show bd (Te (T p).nx) _ = _
          simp only [bd_bd, bd_o]
        have he : ∀ e, (bd (bd (Te (T p).nx) fun r => bd (exS T 44 r.2) fun q => .ok (r.1, q)) fun u => bd (bd (S u.2) fun r => bd (exS T 44 r.2) fun q => .ok (r.1, q)) fun w => bd (bd (S w.2) fun r => bd (exS T 41 r.2) fun q => .ok (r.1, q)) fun y => .ok (u.1 ++ (w.1 ++ (y.1 ++ [(4, 0)])), y.2)) = Except.error e → E e := fun e z => he e (u.trans z)
        have hk : ∀ c q, (bd (bd (Te (T p).nx) fun r => bd (exS T 44 r.2) fun q => .ok (r.1, q)) fun u => bd (bd (S u.2) fun r => bd (exS T 44 r.2) fun q => .ok (r.1, q)) fun w => bd (bd (S w.2) fun r => bd (exS T 41 r.2) fun q => .ok (r.1, q)) fun y => .ok (u.1 ++ (w.1 ++ (y.1 ++ [(4, 0)])), y.2)) = Except.ok (c, q) → G (F :: fs, C ++ c, o, q, true) := fun c q z => hk c q (u.trans z)
        refine frT (c0 := 44) cG ks et hTe (Or.inl ⟨rfl, rfl⟩) hb hl (fun e e1 => he e (by rw [e1]; rfl)) (fun c q e1 => ⟨fun _ => ?_, fun z => absurd z (by decide)⟩)
        rw [e1] at he hk
        refine frS (c0 := 44) cG ks es hS rfl (Or.inl ⟨rfl, rfl⟩) hb hl (fun e e2 => he e (by show bd (bd (S q) _) _ = _; rw [e2]; rfl)) (fun c2 q2 e2 => ⟨fun _ => ?_, fun z => absurd rfl z⟩)
        have he : ∀ e, (bd (bd (S q2) fun r => bd (exS T 41 r.2) fun q => .ok (r.1, q)) fun y => .ok (c ++ (c2 ++ (y.1 ++ [(4, 0)])), y.2)) = Except.error e → E e := fun e z => he e (by show bd (bd (S q) _) _ = _; rw [e2]; exact z)
        have hk : ∀ c' q', (bd (bd (S q2) fun r => bd (exS T 41 r.2) fun q => .ok (r.1, q)) fun y => .ok (c ++ (c2 ++ (y.1 ++ [(4, 0)])), y.2)) = Except.ok (c', q') → G (F :: fs, C ++ c', o, q', true) := fun c' q' z => hk c' q' (by show bd (bd (S q) _) _ = _; rw [e2]; exact z)
        refine frS (c0 := 41) cG ks es hS rfl (Or.inr ⟨by decide, by decide, by decide, by decide, rfl⟩) hb hl (fun e e3 => he e (by rw [e3]; rfl)) (fun c3 q3 e3 => ⟨fun z => absurd z (by decide), fun _ => ?_⟩)
        rw [if_pos rfl]
        have t := hk (c ++ (c2 ++ (c3 ++ [(4, 0)]))) q3 (by rw [e3]; rfl)
        have e4 : C ++ c ++ c2 ++ c3 ++ [tkO 44] = C ++ (c ++ (c2 ++ (c3 ++ [(4, 0)]))) := by
          have : tkO 44 = (4, 0) := by decide
          rw [this]
          simp
        rw [e4]
        exact t
theorem paS {S Te : Pz} {k o N N' L : Nat} (cO : ClO T pg G E) (cG : ClG T G E DN) (ks : Ks T) (hko : k + o = 7) (es : eSm T S) (et : eTs T Te) (hS : ∀ k', k = k' + 1 → SpS T G E S 5 (o + 1) N' L) (hTe : ∀ k', k = k' + 1 → SpT T G E Te 1 1 (o + 1) N' L) (hN : N' ≤ N) : SpS T G E (par T pg k S Te) 7 o N (L + 1) := by
  intro kd ph bg pa os fs C p hph hf hst hb hl he hk
  refine cO _ _ _ _ _ _ _ _ _ (by omega) (by omega) ?_
  have hk0 : ∀ c p', par T pg k S Te p = .ok (c, p') → G ((kd, ph, false, pa, os) :: fs, C ++ c, o, p', true) := fun c p' e => hk c p' e (C ++ c) [] (by simp) (fun x hx => by cases hx) (Nat.zero_le _)
  clear hk
  unfold stO
  unfold par at he hk0
  have ht : tot ((kd, ph, false, pa, os) :: fs) = os.length + tot fs := rfl
  by_cases c4 : (T p).k = 4
  · rw [if_pos c4]
    rw [if_neg (by omega), if_neg (by rw [isS_nk (by omega)]; decide), own_nk (by omega), if_neg (by decide), if_neg (by decide), if_neg (by decide)] at he
    exact he _ rfl
  · rw [if_neg c4, if_neg (fun z => (hf z.1).1 z.2), if_neg (fun z => by rw [(hf z.1).2.1] at z; exact absurd z.2 (by decide)), if_neg (fun z => (hf z.1).2.2 z.2)]
    unfold stP
    by_cases c2 : (T p).k = 2
    · rw [if_pos c2] at hk0
      rw [if_neg (by rw [isS_nk (by omega)]; decide), own_nk (by omega), if_neg (by decide), if_neg (by decide), if_neg (by decide), if_pos c2]
      exact hk0 _ _ rfl
    · rw [if_neg c2] at he hk0
      by_cases c40 : isS (T p) 40 = true
      · rw [if_pos c40]
        rw [if_pos c40] at he hk0
        unfold opz
        by_cases o7 : o = 7
        · rw [if_pos o7]
          obtain rfl : k = 0 := by omega
          exact he _ rfl
        · rw [if_neg o7]
          obtain ⟨k', rfl⟩ : ∃ k', k = k' + 1 := ⟨k - 1, by omega⟩
          exact frS (c0 := 41) cG ks es (hS k' rfl) rfl (Or.inr ⟨by decide, by decide, by decide, by decide, rfl⟩) (by omega) (by omega) he (fun c q e => ⟨fun z => absurd z (by decide), fun _ => hk0 c q e⟩)
      · rw [if_neg c40]
        rw [if_neg c40] at he hk0
        by_cases w20 : own (T p) = some 20
        · rw [if_pos w20]
          rw [if_pos w20] at he hk0
          exact chC cG ks hko (Or.inl rfl) es hS (by omega) (by omega) he hk0
        · rw [if_neg w20]
          rw [if_neg w20] at he hk0
          by_cases w21 : own (T p) = some 21
          · rw [if_pos w21]
            rw [if_pos w21] at he hk0
            exact chC cG ks hko (Or.inr rfl) es hS (by omega) (by omega) he hk0
          · rw [if_neg w21]
            rw [if_neg w21] at he hk0
            by_cases w15 : own (T p) = some 15
            · rw [if_pos w15]
              rw [if_pos w15] at he hk0
              exact chF cG ks hko es et hS hTe (by omega) (by omega) he hk0
            · rw [if_neg w15, if_neg c2]
              rw [if_neg w15] at he hk0
              cases ew : vwd pg (own (T p)) with
              | none =>
                rw [ew] at he
                have t := he _ rfl
                rw [ks _ c4] at t
                exact t
              | some w =>
                rw [ew] at hk0
                exact hk0 _ _ rfl
theorem faT {S Te F : Pz} {k o N N' N1 L : Nat} (cO : ClO T pg G E) (cG : ClG T G E DN) (ks : Ks T) (hko : k + o = 7) (es : eSm T S) (et : eTs T Te) (hS : SpS T G E S 5 o N1 (L + 1)) (hTe : ∀ k', k = k' + 1 → SpT T G E Te 1 1 (o + 1) N' L) (hF : ∀ k', k = k' + 1 → SpT T G E F 3 4 (o + 1) N' (L + 1)) (hN : N' + 1 ≤ N) (hN1 : N1 + 1 ≤ N) : SpT T G E (fct T k S Te F) 3 4 o N (L + 1) := by
  intro kd pa os fs C p hkd hst hb hl he hk
  unfold fct at he hk
  have ht : tot ((kd, 0, false, pa, os) :: fs) = os.length + tot fs := rfl
  have hkb : (isT kd && true) = true := by rw [hkd]; rfl
  by_cases c18 : own (T p) = some 18
  · have k1 := own_k c18
    refine cO _ _ _ _ _ _ _ _ _ (by omega) (by omega) ?_
    unfold stO
    rw [if_neg (by omega), if_pos ⟨hkb, c18⟩]
    rw [if_pos c18] at he hk
    by_cases o7 : o = 7
    · rw [if_pos o7]
      obtain rfl : k = 0 := by omega
      exact he _ rfl
    · rw [if_neg o7]
      obtain ⟨k', rfl⟩ : ∃ k', k = k' + 1 := ⟨k - 1, by omega⟩
      refine hF k' rfl kd pa (43 :: os) fs C (T p).nx hkd (sto_c (by decide)) (by simp only [List.length_cons]; omega) hl (fun e e1 => he e (by show bd (F (T p).nx) _ = _; rw [e1]; rfl)) (fun c px e1 C' pd ph g0 g1 g2 g3 => ?_)
      have t := hk (c ++ [(3, 0)]) px (by show bd (F (T p).nx) _ = _; rw [e1]; rfl) C' (pd ++ [43]) ph g0 (by rw [List.map_append, ← List.append_assoc, g1]; simp [show tkO 43 = (3, 0) by decide]) (fun z hz => by
        rcases List.mem_append.mp hz with hz | hz
        · exact g2 z hz
        · rw [List.mem_singleton.mp hz]; decide) (by simp only [List.length_append, List.length_cons, List.length_nil]; omega)
      rw [List.append_assoc, nts_a, show nts [43] = 1 by decide] at t
      rw [show o + 1 + nts pd = o + (nts pd + 1) by omega]
      exact t
  · rw [if_neg c18] at he hk
    by_cases c91 : isS (T p) 91 = true
    · have k3 := (isS_k c91).1
      refine cO _ _ _ _ _ _ _ _ _ (by omega) (by omega) ?_
      unfold stO
      rw [if_neg (by omega), if_neg (fun z => c18 z.2), if_pos ⟨hkb, c91⟩]
      rw [if_pos c91] at he hk
      unfold opz
      by_cases o7 : o = 7
      · rw [if_pos o7]
        obtain rfl : k = 0 := by omega
        exact he _ rfl
      · rw [if_neg o7]
        obtain ⟨k', rfl⟩ : ∃ k', k = k' + 1 := ⟨k - 1, by omega⟩
        exact frT (c0 := 93) cG ks et (hTe k' rfl) (Or.inr ⟨rfl, rfl⟩) (by omega) (by omega) he (fun c q e => ⟨fun z => absurd z (by decide), fun _ => hk c q e (C ++ c) [] 2 (Or.inr rfl) (by simp) (fun x hx => by cases hx) (Nat.zero_le _)⟩)
    · rw [if_neg c91] at he hk
      by_cases c19 : own (T p) = some 19
      · have k1 := own_k c19
        refine cO _ _ _ _ _ _ _ _ _ (by omega) (by omega) ?_
        unfold stO
        rw [if_neg (by omega), if_neg (fun z => c18 z.2), if_neg (fun z => c91 z.2), if_pos ⟨hkb, c19⟩]
        rw [if_pos c19] at hk
        exact hk _ _ rfl (C ++ [(5, 0)]) [] 2 (Or.inr rfl) (by simp) (fun x hx => by cases hx) (Nat.zero_le _)
      · rw [if_neg c19] at he hk
        refine hS kd 0 true pa os fs C p (by decide) (fun _ => ⟨c18, by cases e : isS (T p) 91 with | true => exact absurd e c91 | false => rfl, c19⟩) (sto_m (by decide) hst) (by omega) hl (fun e e1 => he e (by show bd (S p) _ = _; rw [e1]; rfl)) (fun c1 p1 e1 C' pd g1 g2 g3 => ?_)
        have nd := es _ _ _ e1
        have hl2 : fs.length ≤ 17 := by omega
        have hb2 : (pd ++ os).length + tot fs ≤ 490 := by simp only [List.length_append]; omega
        cases eo : opC (T p1) with
        | none =>
          have t : E (1, (T p1).pl) := he _ (by
            show bd (S p) _ = _
            rw [e1]
            show (match opC (T p1) with | none => _ | some o => _) = _
            rw [eo])
          refine cG _ _ _ _ _ _ _ _ _ hb2 hl2 ?_
          unfold stG
          by_cases c4 : (T p1).k = 4
          · rw [if_pos c4]; exact t
          · rw [ks _ c4] at t
            rw [if_neg c4, if_neg (by rw [nd.1]; exact fun z => absurd z.2 (by decide)), if_neg (by rw [nd.2]; exact fun z => absurd z.2 (by decide)), if_neg (by rw [eo]; exact fun z => absurd z.2.2 (by decide))]
            by_cases c17 : own (T p1) = some 17
            · rw [if_pos ⟨hkd, c17⟩, if_pos rfl]; exact t
            · rw [if_neg (fun z => c17 z.2)]
              by_cases c16 : own (T p1) = some 16
              · rw [if_pos ⟨hkd, c16⟩, if_pos rfl]; exact t
              · rw [if_neg (fun z => c16 z.2), if_pos ⟨hkd, rfl⟩]; exact t
        | some x =>
          obtain ⟨x1, x2, x3, x4⟩ := opC_r eo
          have he2 : ∀ e, (bd (S (T p1).nx) fun b => .ok (c1 ++ (b.1 ++ [(2, x)]), b.2)) = Except.error e → E e := fun e z => he e (by
            show bd (S p) _ = _
            rw [e1]
            show (match opC (T p1) with | none => _ | some o => _) = _
            rw [eo]
            exact z)
          have hk2 := fun c' p' (z : (bd (S (T p1).nx) fun b => .ok (c1 ++ (b.1 ++ [(2, x)]), b.2)) = Except.ok (c', p')) => hk c' p' (by
            show bd (S p) _ = _
            rw [e1]
            show (match opC (T p1) with | none => _ | some o => _) = _
            rw [eo]
            exact z)
          refine cG _ _ _ _ _ _ _ _ _ hb2 hl2 (gC eo hkd g2 (sto_m (by decide) hst) ?_)
          rw [g1]
          refine hS kd 1 false pa (x :: os) fs (C ++ c1) (T p1).nx (by decide) (fun z => absurd z (by rw [Bool.and_false]; decide)) (sto_c (by omega)) (by simp only [List.length_cons]; omega) hl (fun e e2 => he2 e (by rw [e2]; rfl)) (fun c2 p2 e2 C2 pd2 k1 k2 k3 => ?_)
          have t := hk2 (c1 ++ (c2 ++ [(2, x)])) p2 (by rw [e2]; rfl) C2 (pd2 ++ [x]) 1 (Or.inl ⟨rfl, es _ _ _ e2⟩) (by rw [List.map_append, ← List.append_assoc, k1]; simp [x3]) (fun z hz => by
            rcases List.mem_append.mp hz with hz | hz
            · have := k2 z hz; omega
            · rw [List.mem_singleton.mp hz]; omega) (by simp only [List.length_append, List.length_cons, List.length_nil]; omega)
          rw [List.append_assoc, nts_a] at t
          have e0 : nts [x] = 0 := by show 0 + (if x = 43 then 1 else 0) = 0; rw [if_neg x2]
          rw [e0] at t
          exact t
/-- where sums and tests of a level end -/
theorem lv_end (hT : TN n T) (hn : n ≤ 1600) (hz : ∀ p, n ≤ p → (T p).k = 0) {D k : Nat} {lo : Pz × Pz × Pz} (h1 : gdP n pg D false lo.1) (h2 : gdP n pg D true lo.2.1) (h3 : gdP n pg D true lo.2.2) : eSm T (lvN T pg k lo).1 ∧ eTs T (lvN T pg k lo).2.1 := by
  have gl : ∀ {d : Nat} {b : Bool} {X : Pz}, gdP n pg d b X → ∀ p c p', X p = .ok (c, p') → p ≤ p' := fun g p c p' e => by have := g p c p' e; omega
  have gp := par_gd (k := k) hT h1 h2
  have g1 := chn_gd hT (fun _ _ h => opP_o h) gp
  have gs := chn_gd hT (fun _ _ h => opS_o h) g1
  have gf := fct_gd (k := k) hT gs (gdP_m (by omega) h2) (gdP_m (by omega) h3)
  have ga := chn_gd hT (fun _ _ h => opA_o h) gf
  refine ⟨fun p c p' e => ?_, fun p c p' e => ?_⟩
  · refine chn_end (op := opS) (φ := fun q => opP (T q) = none) hT hn (fun p hp => (op_nk (by rw [hz p hp]; decide)).1) (fun t o h => (opS_o h).1) (gl g1) (fun p c p' e => ?_) e
    exact (chn_end (op := opP) (φ := fun _ => True) hT hn (fun p hp => (op_nk (by rw [hz p hp]; decide)).2.1) (fun t o h => (opP_o h).1) (gl gp) (fun _ _ _ _ => trivial) e).1
  · have nO : ∀ t : Sg, opO t = none → own t ≠ some 16 := fun t h z => by unfold opO at h; rw [if_pos z] at h; cases h
    have nA : ∀ t : Sg, opA t = none → own t ≠ some 17 := fun t h z => by unfold opA at h; rw [if_pos z] at h; cases h
    have zO : ∀ p, n ≤ p → opO (T p) = none := fun p hp => by unfold opO; rw [own_nk (by rw [hz p hp]; decide)]; rfl
    have zA : ∀ p, n ≤ p → opA (T p) = none := fun p hp => by unfold opA; rw [own_nk (by rw [hz p hp]; decide)]; rfl
    have t := chn_end (op := opO) (φ := fun q => opA (T q) = none) hT hn zO (fun t o h => (opO_o h).1) (gl ga) (fun p c p' e => (chn_end (op := opA) (φ := fun _ => True) hT hn zA (fun t o h => (opA_o h).1) (gl gf) (fun _ _ _ _ => trivial) e).1) e
    exact ⟨nA _ t.2, nO _ t.1⟩
theorem lvS (cO : ClO T pg G E) (cG : ClG T G E DN) (ks : Ks T) (hT : TN n T) (hn : n ≤ 1600) (hz : ∀ p, n ≤ p → (T p).k = 0) {D k o N N' L : Nat} {lo : Pz × Pz × Pz} (hko : k + o = 7) (g1 : gdP n pg D false lo.1) (g2 : gdP n pg D true lo.2.1) (g3 : gdP n pg D true lo.2.2) (e1 : eSm T lo.1) (e2 : eTs T lo.2.1) (h1 : ∀ k', k = k' + 1 → SpS T G E lo.1 5 (o + 1) N' L) (h2 : ∀ k', k = k' + 1 → SpT T G E lo.2.1 1 1 (o + 1) N' L) (h3 : ∀ k', k = k' + 1 → SpT T G E lo.2.2 3 4 (o + 1) N' L) (hN : N' ≤ N) : SpS T G E (lvN T pg k lo).1 5 o (N + 2) (L + 1) ∧ SpT T G E (lvN T pg k lo).2.1 1 1 o (N + 5) (L + 1) ∧ SpT T G E (lvN T pg k lo).2.2 3 4 o (N + 3) (L + 1) := by
  have p := paS (pg := pg) cO cG ks hko e1 e2 h1 h2 hN
  have s1 := chS (op := opP) (r := 6) cG (fun _ _ h => opP_r h) (fun _ _ _ _ _ _ _ _ _ _ _ a b c d e => gP a b c d e) p
  have s := chS (op := opS) (r := 5) cG (fun _ _ h => opS_r h) (fun _ _ _ _ _ _ _ _ _ _ _ a b c d e => gS a b c d e) s1
  have es := (lv_end (k := k) hT hn hz g1 g2 g3).1
  have fc := faT (N := N + 3) (pg := pg) cO cG ks hko es e2 s h2 (fun k' e => SpT_m (Nat.le_refl _) (Nat.le_succ _) (h3 k' e)) (by omega) (by omega)
  have oA : ∀ (t : Sg) (y : Nat), opA t = some y → y = 41 ∧ own t = some 17 := fun t y h => by
    unfold opA at h
    split at h
    · cases h; exact ⟨rfl, by assumption⟩
    · cases h
  have oO : ∀ (t : Sg) (y : Nat), opO t = some y → y = 42 ∧ own t = some 16 := fun t y h => by
    unfold opO at h
    split at h
    · cases h; exact ⟨rfl, by assumption⟩
    · cases h
  have bo := chT (op := opA) (r := 2) (w := 17) (x := 41) (q := 4) cG oA (by decide) (by decide) (by decide) (fun _ _ _ _ _ _ _ _ _ _ a b c d e f => gA a b c d e f) fc
  have te := chT (op := opO) (r := 1) (w := 16) (x := 42) (q := 2) cG oO (by decide) (by decide) (by decide) (fun _ _ _ _ _ _ _ _ _ _ a b c d e f => gO a b c d e f) bo
  exact ⟨s, te, fc⟩
theorem lvM (cO : ClO T pg G E) (cG : ClG T G E DN) (ks : Ks T) (hT : TN n T) (hn : n ≤ 1600) (hz : ∀ p, n ≤ p → (T p).k = 0) : ∀ (k o : Nat), k + o = 7 → (SpS T G E (lev T pg k).1 5 o (10 * k + 2) (k + 1) ∧ SpT T G E (lev T pg k).2.1 1 1 o (10 * k + 5) (k + 1) ∧ SpT T G E (lev T pg k).2.2 3 4 o (10 * k + 3) (k + 1)) ∧ eSm T (lev T pg k).1 ∧ eTs T (lev T pg k).2.1
  | 0, o, hko => by
    have z : ∀ b, gdP n pg 0 b dumz := fun b p c p' e => by cases e
    exact ⟨lvS (N := 0) (N' := 0) (L := 0) (D := 0) cO cG ks hT hn hz hko (z _) (z _) (z _) (fun p c p' e => by cases e) (fun p c p' e => by cases e) (fun k' e => by omega) (fun k' e => by omega) (fun k' e => by omega) (Nat.le_refl _), lv_end (D := 0) hT hn hz (z _) (z _) (z _)⟩
  | k + 1, o, hko => by
    have ih := lvM cO cG ks hT hn hz k (o + 1) (by omega)
    have g := lev_gd (pg := pg) hT k
    refine ⟨lvS (N := 10 * (k + 1)) (N' := 10 * k + 5) (L := k + 1) cO cG ks hT hn hz hko g.1 g.2.1 g.2.2 ih.2.1 ih.2.2 (fun _ _ => SpS_m (by omega) (Nat.le_refl _) ih.1.1) (fun _ _ => ih.1.2.1) (fun _ _ => SpT_m (by omega) (Nat.le_refl _) ih.1.2.2) (by omega), lv_end hT hn hz g.1 g.2.1 g.2.2⟩
end PSn
