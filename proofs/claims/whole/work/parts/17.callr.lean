/-! the calls themselves -/
abbrev pj_ws (t : pj_T) : List Cond := Cond.code t.1.1 t.1.2.1 t.1.2.2.1 t.1.2.2.2 :: pj_tbl
abbrev pj_rm (d k : Nat) : Room := { frames := d + 10, cells := (ta k).1, slots := (ta k).2, locals := 64 * d + 640 }
/-- our methods keep their contracts, to a depth -/
def pj_hM (l : Launch) (ω : pj_Wd) (C : pj_CT) (d : Nat) : Prop := ∀ (k : Nat) (as : List Value) (σ : pj_S) (K : pj_K) (t : pj_T), k ≠ 0 → tm k = some t → C k as σ K → Met l t.1.1 (pj_ws t) (pj_rm d k) (pj_Pc ω as σ) (pj_Qc ω (ta k).1 K) (ta k).1 (ta k).2 (fun x => ω.2.2.2.2.1 ≤ x)
/-- a call's entry -/
theorem pj_lnk {own k x : Nat} (h : (cpM.any fun q => Nat.beq q.1 own && Nat.beq q.2.1 k && Nat.beq q.2.2.1 x) = true) : ∃ (pl : Nat) (ne : Bool), pj_okX (own, k, x, pl, ne) = true := by
  obtain ⟨q, hq, h⟩ := List.any_eq_true.mp h
  simp only [Bool.and_eq_true] at h
  obtain ⟨⟨h1, h2⟩, h3⟩ := h
  have e1 := Nat.eq_of_beq_eq_true h1
  have e2 := Nat.eq_of_beq_eq_true h2
  have e3 := Nat.eq_of_beq_eq_true h3
  obtain ⟨q1, q2, q3, q4, q5⟩ := q
  dsimp only at e1 e2 e3
  subst e1; subst e2; subst e3
  exact ⟨q4, q5, List.all_eq_true.mp cpM_ok _ hq⟩
theorem pj_lnk2 {own k x : Nat} {t : pj_T} (hx : x < 1000) (ht : tm x = some t) (h : (cpM.any fun q => Nat.beq q.1 own && Nat.beq q.2.1 k && Nat.beq q.2.2.1 x) = true) : x ≠ 0 ∧ (Cond.methodLink (cn own) k t.1.1 ∈ pj_tbl ∨ Cond.methodLinkNest (cn own) k t.1.1 "PegCoats" ∈ pj_tbl) := by
  obtain ⟨pl, ne, h⟩ := pj_lnk h
  unfold pj_okX at h
  dsimp only at h
  split at h
  · omega
  · omega
  · omega
  · omega
  · omega
  · omega
  · rw [ht] at h
    dsimp only at h
    rw [Bool.and_eq_true, Bool.not_eq_true'] at h
    refine ⟨fun q => ?_, ?_⟩
    · rw [q] at h
      exact absurd h.1 (by decide)
    · cases ne with
      | false => exact Or.inl (pj_tb (of_decide_eq_true h.2))
      | true => exact Or.inr (pj_tb (of_decide_eq_true h.2))
set_option maxRecDepth 8000 in
theorem pj_loc {a d r : Nat} (h : a ≤ 40) (h2 : 64 * d + 704 ≤ r) : 8 + (a + 11) + (64 * d + 640) ≤ r := by omega
section PR
variable {ω : pj_Wd} {p : Program} {l : Launch} {e : Env} {R : Room} {s : State} {m : MethodId} {args : Array Value} {below : List Frame} {meth : Method} {c : Code} {nL : Nat} {QW : State → Prop} {bytes : ByteArray} {own : Nat} {pc : Nat} {Z : pj_Z} {I : Nat → Nat → Int32} {J : Nat → Nat → Int64} {H : Heap} {locs : List Loc} {ls : Array Slot} {cells slots d : Nat} {rest : List Value} {C : pj_CT}
theorem pj_callB (X : pj_X ω p R s m args c bytes nL own) (hR1 : d + 11 ≤ R.frames) (hR2 : 64 * d + 704 ≤ R.locals) {x : Nat} {t : pj_T} (hk : pj_okP x t) {n k : Nat} (hn : (mp x).1 = n) (hl : Cond.methodLink (cn own) k t.1.1 ∈ pj_tbl) :
    CallB R s args (cn own) k t.1.1 t.1.2.1 t.1.2.2.1 t.1.2.2.2 (pj_ws t) (pj_rm d x) (ta x).1 (ta x).2 n := by
  obtain ⟨-, -, hcode, hini, hy1, hy2, hpar, hml, -⟩ := hk
  have hts := X.2.2.2.2.1
  refine ⟨rfl, rfl, hR1, pj_loc hml hR2, fun w hw => ?_, List.mem_cons_self, hts _ hcode, hts _ hini, ⟨hy1, hy2⟩, fun sig h => ?_, hts _ hl⟩
  · rcases List.mem_cons.mp hw with rfl | hw
    · exact pj_pay hts _ hcode
    · exact pj_pay hts _ hw
  · rw [h] at hpar
    rw [← hn]
    exact (Option.some.inj hpar).symm
theorem pj_callN (X : pj_X ω p R s m args c bytes nL own) (hR1 : d + 11 ≤ R.frames) (hR2 : 64 * d + 704 ≤ R.locals) {x : Nat} {t : pj_T} (hk : pj_okP x t) {n k : Nat} (hn : (mp x).1 = n) (hl : Cond.methodLinkNest (cn own) k t.1.1 "PegCoats" ∈ pj_tbl) :
    va_CN R s args (cn own) k t.1.1 "PegCoats" t.1.2.1 t.1.2.2.1 t.1.2.2.2 (pj_ws t) (pj_rm d x) (ta x).1 (ta x).2 n := by
  obtain ⟨-, -, hcode, hini, hy1, hy2, hpar, hml, -⟩ := hk
  have hts := X.2.2.2.2.1
  refine ⟨⟨rfl, rfl, hR1, pj_loc hml hR2, fun w hw => ?_, List.mem_cons_self⟩, hts _ hcode, hts _ hini, ⟨hy1, hy2⟩, fun sig h => ?_, hts _ hl⟩
  · rcases List.mem_cons.mp hw with rfl | hw
    · exact pj_pay hts _ hcode
    · exact pj_pay hts _ hw
  · rw [h] at hpar
    rw [← hn]
    exact (Option.some.inj hpar).symm
/-- the heap's size in a walk -/
theorem pj_size (X : pj_X ω p R s m args c bytes nL own) (g : pj_wd ω s Z I J H locs cells) {g0 : JFrame} (k : H.size = ω.2.2.2.2.1 + (Z.1 - 2) → H.size = s.heap.size + cells → W p l e R s m args below meth c H locs cells slots QW g0) : W p l e R s m args below meth c H locs cells slots QW g0 := by
  intro T hT XX
  have h1 := XX.heapSize
  rw [hT] at h1
  have h2 := pj_szle X g
  have h3 := g.2.2.1
  exact k (by omega) (by omega) T hT XX
theorem pj_cV (X : pj_X ω p R s m args c bytes nL own) (hM : pj_hM l ω C d) (hR1 : d + 11 ≤ R.frames) (hR2 : 64 * d + 704 ≤ R.locals) {k x z a : Nat} {t : pj_T} (hx : x < 1000) (ht : tm x = some t) (hkind : (mp x).2 = 0) (hz : z = t.2.1.1)
    (hl : (cpM.any fun q => Nat.beq q.1 own && Nat.beq q.2.1 k && Nat.beq q.2.2.1 x) = true) {As : List Value} (hn : (mp x).1 = As.length) (ha : Z.2.1 a = z) (hrest : (rest.map fun v => v.category).sum ≤ 8) (hd : decode bytes pc = .ok (.invokevirtual k, 3))
    (g : pj_wd ω s Z I J H locs cells) (hls : ls.size = nL) (hc : cells + (ta x).1 ≤ R.cells) (hs : slots + (ta x).2 ≤ R.slots) {K : pj_K} (hC : C x (.ref a :: As) (Z, I, J) K)
    (kk : ∀ (r : Option Value) (σ : pj_S) (H1 : Heap) (locs1 : List Loc), K r σ → pj_wd ω s σ.1 σ.2.1 σ.2.2 H1 locs1 (cells + (ta x).1) → W p l e R s m args below meth c H1 locs1 (cells + (ta x).1) (slots + (ta x).2) QW (F0 m (pc + 3) ls ((r.map (pj_cv ω)).toList ++ rest))) :
    W p l e R s m args below meth c H locs cells slots QW (F0 m pc ls ((As.map (pj_cv ω)).reverse ++ .ref (pj_ad ω a) :: rest)) := by
  refine pj_size X g (fun hsz hsz2 => ?_)
  obtain ⟨hx0, hlk⟩ := pj_lnk2 hx ht hl
  have hk := pj_okAll hx0 ht
  have hMet := hM x (.ref a :: As) (Z, I, J) K t hx0 ht hC
  have hkk := hk.2.2.2.2.2.2.2.2.2.2
  rw [hkind] at hkk
  rcases hkk with ⟨-, hin, hse, -⟩ | ⟨h, -⟩ | ⟨h, -⟩
  · have hcl : ∃ r, pj_cl[z]? = some r ∧ r.1 = t.1.1.cls := by
      have h13 : z < 13 := by
        obtain ⟨w1, w2, w3, w4⟩ := g.1
        rcases Nat.lt_or_ge z 13 with q | q
        · exact q
        · exfalso
          have hmt : ∀ k, k < 265 → k ≠ 0 → (mp k).2 = 0 → ∀ t, tm k = some t → t.2.1.1 < 13 := by
            intro k hk hk0 h0 t ht
            have hall : (List.range 265).all (fun k => Nat.beq k 0 || !Nat.beq (mp k).2 0 || (match tm k with | none => true | some t => Nat.blt t.2.1.1 13)) = true := by decide +kernel
            have := List.all_eq_true.mp hall k (List.mem_range.mpr hk)
            rw [ht] at this
            simp only [Bool.or_eq_true, Bool.not_eq_true'] at this
            rcases this with (h | h) | h
            · exact absurd (Nat.eq_of_beq_eq_true h) hk0
            · rw [h0] at h; cases h
            · exact Nat.blt_eq.mp h
          have hlt : x < 265 := by
            rcases Nat.lt_or_ge x 265 with q | q
            · exact q
            · exfalso
              unfold tm at ht
              rw [show Nat.blt x 265 = false by rw [← Bool.not_eq_true, Nat.blt_eq]; omega] at ht
              cases ht
          have := hmt x hlt hx0 hkind t ht
          omega
      obtain ⟨r, hr⟩ : ∃ r, pj_cl[z]? = some r := ⟨pj_cl[z]'h13, List.getElem?_eq_getElem h13⟩
      refine ⟨r, hr, ?_⟩
      rw [(pj_cls hr).2.2.2.2.2.2.2, hk.2.1, hz]
    obtain ⟨r, hr, hrc⟩ := hcl
    have h13 := (pj_cls hr).1
    obtain ⟨q0, rfl, hq, he⟩ := pj_cell g ha (by omega)
    rw [pj_we_obj ha h13] at he
    have hrv := va_recv X.2.2.2.2.2.1 g.2.1 hr he
    rw [hrc] at hrv
    have hp : PreV s H t.1.1.cls (pj_ad ω (q0 + 2)) (pj_Pc ω (.ref (q0 + 2) :: As) (Z, I, J)) (As.map (pj_cv ω)) := ⟨pj_blind _ _ _, hrv, fun U hU hW => pj_start X g hsz (.ref (q0 + 2) :: As) U hU hW⟩
    rcases hlk with hlk | hlk
    · exact pj_back (va_runV (As := As.map (pj_cv ω)) (rest := rest) ⟨X.1, X.2.1, X.2.2.1, X.2.2.2.1, X.2.2.2.2.1⟩ hMet ⟨pj_callB X hR1 hR2 hk hn hlk, X.2.2.2.2.1 _ hin, X.2.2.2.2.1 _ hse⟩ hp rfl (by rw [List.length_map]) hls rfl (lv_room hrest) hd ⟨hc, hs⟩) g.2.2.2.1 hsz2 kk
    · exact pj_back (va_runVN (As := As.map (pj_cv ω)) (rest := rest) ⟨X.1, X.2.1, X.2.2.1, X.2.2.2.1, X.2.2.2.2.1⟩ hMet ⟨pj_callN X hR1 hR2 hk hn hlk, X.2.2.2.2.1 _ hin, X.2.2.2.2.1 _ hse⟩ hp rfl (by rw [List.length_map]) hls rfl (lv_room hrest) hd ⟨hc, hs⟩) g.2.2.2.1 hsz2 kk
  · cases h
  · cases h
theorem pj_cS (X : pj_X ω p R s m args c bytes nL own) (hM : pj_hM l ω C d) (hR1 : d + 11 ≤ R.frames) (hR2 : 64 * d + 704 ≤ R.locals) {k x : Nat} {t : pj_T} (hx : x < 1000) (ht : tm x = some t) (hkind : (mp x).2 = 1)
    (hl : (cpM.any fun q => Nat.beq q.1 own && Nat.beq q.2.1 k && Nat.beq q.2.2.1 x) = true) {As : List Value} (hn : (mp x).1 = As.length) (hrest : (rest.map fun v => v.category).sum ≤ 8) (hd : decode bytes pc = .ok (.invokestatic k, 3))
    (g : pj_wd ω s Z I J H locs cells) (hls : ls.size = nL) (hc : cells + (ta x).1 ≤ R.cells) (hs : slots + (ta x).2 ≤ R.slots) {K : pj_K} (hC : C x As (Z, I, J) K)
    (kk : ∀ (r : Option Value) (σ : pj_S) (H1 : Heap) (locs1 : List Loc), K r σ → pj_wd ω s σ.1 σ.2.1 σ.2.2 H1 locs1 (cells + (ta x).1) → W p l e R s m args below meth c H1 locs1 (cells + (ta x).1) (slots + (ta x).2) QW (F0 m (pc + 3) ls ((r.map (pj_cv ω)).toList ++ rest))) :
    W p l e R s m args below meth c H locs cells slots QW (F0 m pc ls ((As.map (pj_cv ω)).reverse ++ rest)) := by
  refine pj_size X g (fun hsz hsz2 => ?_)
  obtain ⟨hx0, hlk⟩ := pj_lnk2 hx ht hl
  have hk := pj_okAll hx0 ht
  have hMet := hM x As (Z, I, J) K t hx0 ht hC
  have hkk := hk.2.2.2.2.2.2.2.2.2.2
  rw [hkind] at hkk
  have hp : PreS s H (pj_Pc ω As (Z, I, J)) (As.map (pj_cv ω)) := ⟨pj_blind _ _ _, fun U hU hW => pj_start X g hsz As U hU hW⟩
  rcases hkk with ⟨h, -⟩ | ⟨-, hst, -⟩ | ⟨h, -⟩
  · cases h
  · rcases hlk with hlk | hlk
    · exact pj_back (va_runS (As := As.map (pj_cv ω)) (rest := rest) ⟨X.1, X.2.1, X.2.2.1, X.2.2.2.1, X.2.2.2.2.1⟩ hMet ⟨pj_callB X hR1 hR2 hk hn hlk, X.2.2.2.2.1 _ hst⟩ hp rfl (by rw [List.length_map]) hls rfl (lv_room hrest) hd ⟨hc, hs⟩) g.2.2.2.1 hsz2 kk
    · exact pj_back (va_runSN (As := As.map (pj_cv ω)) (rest := rest) ⟨X.1, X.2.1, X.2.2.1, X.2.2.2.1, X.2.2.2.2.1⟩ hMet ⟨pj_callN X hR1 hR2 hk hn hlk, X.2.2.2.2.1 _ hst, trivial⟩ hp rfl (by rw [List.length_map]) hls rfl (lv_room hrest) hd ⟨hc, hs⟩) g.2.2.2.1 hsz2 kk
  · cases h
theorem pj_cI (X : pj_X ω p R s m args c bytes nL own) (hM : pj_hM l ω C d) (hR1 : d + 11 ≤ R.frames) (hR2 : 64 * d + 704 ≤ R.locals) {k x a : Nat} {t : pj_T} (hx : x < 1000) (ht : tm x = some t) (hkind : (mp x).2 = 2)
    (hl : (cpM.any fun q => Nat.beq q.1 own && Nat.beq q.2.1 k && Nat.beq q.2.2.1 x) = true) {As : List Value} (hn : (mp x).1 = As.length) (hrest : (rest.map fun v => v.category).sum ≤ 8) (hd : decode bytes pc = .ok (.invokespecial k, 3))
    (g : pj_wd ω s Z I J H locs cells) (hls : ls.size = nL) (hc : cells + (ta x).1 ≤ R.cells) (hs : slots + (ta x).2 ≤ R.slots) {K : pj_K} (hC : C x (.ref a :: As) (Z, I, J) K)
    (kk : ∀ (r : Option Value) (σ : pj_S) (H1 : Heap) (locs1 : List Loc), K r σ → pj_wd ω s σ.1 σ.2.1 σ.2.2 H1 locs1 (cells + (ta x).1) → W p l e R s m args below meth c H1 locs1 (cells + (ta x).1) (slots + (ta x).2) QW (F0 m (pc + 3) ls ((r.map (pj_cv ω)).toList ++ rest))) :
    W p l e R s m args below meth c H locs cells slots QW (F0 m pc ls ((As.map (pj_cv ω)).reverse ++ .ref (pj_ad ω a) :: rest)) := by
  refine pj_size X g (fun hsz hsz2 => ?_)
  obtain ⟨hx0, hlk⟩ := pj_lnk2 hx ht hl
  have hk := pj_okAll hx0 ht
  have hMet := hM x (.ref a :: As) (Z, I, J) K t hx0 ht hC
  have hkk := hk.2.2.2.2.2.2.2.2.2.2
  rw [hkind] at hkk
  have hp : PreS s H (pj_Pc ω (.ref a :: As) (Z, I, J)) (.ref (pj_ad ω a) :: As.map (pj_cv ω)) := ⟨pj_blind _ _ _, fun U hU hW => pj_start X g hsz (.ref a :: As) U hU hW⟩
  rcases hkk with ⟨h, -⟩ | ⟨h, -⟩ | ⟨-, hin, hnm, hret⟩
  · cases h
  · cases h
  · rcases hlk with hlk | hlk
    · have hB := pj_callB X hR1 hR2 hk hn hlk
      rw [hret] at hB
      exact pj_back (va_runI (As := As.map (pj_cv ω)) (rest := rest) ⟨X.1, X.2.1, X.2.2.1, X.2.2.2.1, X.2.2.2.2.1⟩ hMet ⟨hB, hnm, X.2.2.2.2.1 _ hin⟩ hp rfl (by rw [List.length_map]) hls rfl (lv_room hrest) hd ⟨hc, hs⟩) g.2.2.2.1 hsz2 kk
    · have hB := pj_callN X hR1 hR2 hk hn hlk
      rw [hret] at hB
      exact pj_back (va_runIN (As := As.map (pj_cv ω)) (rest := rest) ⟨X.1, X.2.1, X.2.2.1, X.2.2.2.1, X.2.2.2.2.1⟩ hMet ⟨hB, hnm, X.2.2.2.2.1 _ hin⟩ hp rfl (by rw [List.length_map]) hls rfl (lv_room hrest) hd ⟨hc, hs⟩) g.2.2.2.1 hsz2 kk
end PR
