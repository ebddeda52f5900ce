/-! every instruction -/
section PZ
variable {ω : pj_Wd} {p : Program} {l : Launch} {e : Env} {R : Room} {s : State} {m : MethodId} {args : Array Value} {below : List Frame} {meth : Method} {c : Code} {nL : Nat} {QW : State → Prop} {bytes : ByteArray} {own d : Nat} {pc : Nat} {L : pj_L} {st : List Value} {Z : pj_Z} {I : Nat → Nat → Int32} {J : Nat → Nat → Int64} {bc bs : Nat} {C : pj_CT} {rt : Bool} {Q : pj_K} {rk : Nat} {ini : Bool}
theorem pj_ftN (a : Int32) : ∀ ty, pj_ftc ty = 0 → narrow ty (.int a) = .int a ∧ fits ty (.int a) = true := by
  intro ty h
  cases ty <;> first | exact ⟨rfl, rfl⟩ | cases h
theorem pj_ftL (a : Int64) : ∀ ty, pj_ftc ty = 1 → narrow ty (.long a) = .long a ∧ fits ty (.long a) = true := by
  intro ty h
  cases ty <;> first | exact ⟨rfl, rfl⟩ | cases h
theorem pj_b01 {a : Int32} (h : a &&& 1 = a) : a = 0 ∨ a = 1 := by
  have h1 : (a &&& 1).toBitVec.toNat ≤ 1 := by
    rw [Int32.toBitVec_and, BitVec.toNat_and]
    exact Nat.and_le_right
  rw [h] at h1
  rcases Nat.lt_or_ge a.toBitVec.toNat 1 with q | q
  · left
    apply Int32.toBitVec_inj.mp
    apply BitVec.eq_of_toNat_eq
    show a.toBitVec.toNat = 0
    omega
  · right
    apply Int32.toBitVec_inj.mp
    apply BitVec.eq_of_toNat_eq
    show a.toBitVec.toNat = 1
    omega
theorem pj_ftZ {a : Int32} (h : a &&& 1 = a) : ∀ ty, pj_ftc ty = 3 → narrow ty (.int a) = .int a ∧ fits ty (.int a) = true := by
  intro ty hz
  cases ty <;> first | cases hz | skip
  refine ⟨by show Value.int (a &&& 1) = _; rw [h], ?_⟩
  rcases pj_b01 h with rfl | rfl <;> rfl
theorem pj_put1 {k x y z : Nat} {f : Nat × Nat × Nat × Nat × Nat × Nat × Bool → Bool} {P : FieldType → Prop} (h3 : (cpF.any fun q => Nat.beq q.1 own && Nat.beq q.2.1 k && Nat.beq q.2.2.1 x && Nat.beq q.2.2.2.1 y && Nat.beq q.2.2.2.2.1 z && f q) = true) (hP : ∀ ty, pj_ftc ty = z → P ty) : P (pj_ty x y) := by
  have h3' : (cpF.any fun q => Nat.beq q.1 own && Nat.beq q.2.1 k && Nat.beq q.2.2.1 x && Nat.beq q.2.2.2.1 y && Nat.beq q.2.2.2.2.1 z) = true := by
    obtain ⟨q, hq, h⟩ := List.any_eq_true.mp h3
    rw [Bool.and_eq_true] at h
    exact List.any_eq_true.mpr ⟨q, hq, h.1⟩
  obtain ⟨r, hr, -, -, hft, -⟩ := pj_fld h3'
  exact hP _ hft
theorem pj_noC (hCn : ∀ x as σ K, tm x = none → C x as σ K → False) {go : pj_G} {x y z nx mc ms : Nat} {inst : Bool} (hx : 1000 ≤ x) (h : pj_call C go x y z nx inst L st Z I J bc bs mc ms) : False := by
  have ht : tm x = none := by
    unfold tm
    rw [show Nat.blt x 265 = false by rw [← Bool.not_eq_true, Nat.blt_eq]; omega]
    rfl
  unfold pj_call at h
  obtain ⟨-, h⟩ := pj_c_e h
  cases inst
  · exact hCn _ _ _ _ ht h
  · obtain ⟨a, r, -, h⟩ := pj_pR_e h
    obtain ⟨-, h⟩ := pj_c_e h
    exact hCn _ _ _ _ ht h
set_option maxHeartbeats 4000000 in
set_option maxRecDepth 8000 in
theorem pj_step (X : pj_X ω p R s m args c bytes nL own) (hM : pj_hM l ω C d) (hR1 : d + 11 ≤ R.frames) (hR2 : 64 * d + 704 ≤ R.locals) (hini : ini = true → meth.name = "<init>") (hE : pj_end ω p l e R s m args below meth c bytes QW rt rk Q) (hCn : ∀ x as σ K, tm x = none → C x as σ K → False)
    {i : Instr} {len nx x y z : Nat} {w : Int32} {v : Int64} {sw : List (Int32 × Nat)} (hd : decode bytes pc = .ok (i, len)) (hok : pj_okE own ini rk pc (i, len, nx, (x, y, z), w, v, sw) = true)
    (h : pj_x C ta rt Q (pj_W ω p l e R s m args below meth c nL QW) i nx x y z w v sw L st Z I J bc bs) : pj_W ω p l e R s m args below meth c nL QW pc L st Z I J bc bs := by
  unfold pj_okE at hok
  rw [Bool.and_eq_true, Bool.and_eq_true] at hok
  obtain ⟨⟨h1, h2⟩, h3⟩ := hok
  have hn : nx = pc + len := Nat.eq_of_beq_eq_true h1
  subst hn
  have hx := X.1
  have hb := X.2.1
  have h2 : (pj_isS i || Nat.beq len (pj_len i)) = true := h2
  have hlen : pj_isS i = false → len = pj_len i := fun q => pj_len_of h2 q
  clear h2
  clear h1
  cases i
  case aload k =>
    obtain rfl : len = 2 := hlen rfl
    obtain ⟨a, ha, h⟩ := pj_gR_e h
    exact fun H locs ls cells slots g1 g2 g3 g4 => lv_aload hx hb hd (pj_lr_get g4 ha) (h H locs ls cells slots g1 g2 g3 g4)
  case aload_n k =>
    obtain rfl : len = 1 := hlen rfl
    obtain ⟨a, ha, h⟩ := pj_gR_e h
    exact fun H locs ls cells slots g1 g2 g3 g4 => lv_aload_n hx hb hd rfl (pj_lr_get g4 ha) (h H locs ls cells slots g1 g2 g3 g4)
  case iload k =>
    obtain rfl : len = 2 := hlen rfl
    obtain ⟨a, ha, h⟩ := pj_gI_e h
    exact fun H locs ls cells slots g1 g2 g3 g4 => lv_iload hx hb hd (pj_lr_get g4 ha) (h H locs ls cells slots g1 g2 g3 g4)
  case iload_n k =>
    obtain rfl : len = 1 := hlen rfl
    obtain ⟨a, ha, h⟩ := pj_gI_e h
    exact fun H locs ls cells slots g1 g2 g3 g4 => lv_iload_n hx hb hd rfl (pj_lr_get g4 ha) (h H locs ls cells slots g1 g2 g3 g4)
  case lload k =>
    obtain rfl : len = 2 := hlen rfl
    obtain ⟨a, ha, h⟩ := pj_gL_e h
    exact fun H locs ls cells slots g1 g2 g3 g4 => lv_lload hx hb hd (pj_lr_get g4 ha) (h H locs ls cells slots g1 g2 g3 g4)
  case lload_n k =>
    obtain rfl : len = 1 := hlen rfl
    obtain ⟨a, ha, h⟩ := pj_gL_e h
    exact fun H locs ls cells slots g1 g2 g3 g4 => lv_lload_n hx hb hd rfl (pj_lr_get g4 ha) (h H locs ls cells slots g1 g2 g3 g4)
  case astore k =>
    obtain rfl : len = 2 := hlen rfl
    obtain ⟨a, st, rfl, h⟩ := pj_pR_e h
    obtain ⟨hk, h⟩ := pj_c_e h
    exact fun H locs ls cells slots g1 g2 g3 g4 => pj_st1 X (Nat.blt_eq.mp hk) h g1 g2 g3 g4 (fun lv lv' a1 a2 a3 a4 => lv_astore hx hb hd a1 a2 a3 a4)
  case astore_n k =>
    obtain rfl : len = 1 := hlen rfl
    obtain ⟨a, st, rfl, h⟩ := pj_pR_e h
    obtain ⟨hk, h⟩ := pj_c_e h
    exact fun H locs ls cells slots g1 g2 g3 g4 => pj_st1 X (Nat.blt_eq.mp hk) h g1 g2 g3 g4 (fun lv lv' a1 a2 a3 a4 => lv_astore_n hx hb hd rfl a1 a2 a3 a4)
  case istore k =>
    obtain rfl : len = 2 := hlen rfl
    obtain ⟨a, st, rfl, h⟩ := pj_pI_e h
    obtain ⟨hk, h⟩ := pj_c_e h
    exact fun H locs ls cells slots g1 g2 g3 g4 => pj_st1 X (Nat.blt_eq.mp hk) h g1 g2 g3 g4 (fun lv lv' a1 a2 a3 a4 => lv_istore hx hb hd a1 a2 a3 a4)
  case istore_n k =>
    obtain rfl : len = 1 := hlen rfl
    obtain ⟨a, st, rfl, h⟩ := pj_pI_e h
    obtain ⟨hk, h⟩ := pj_c_e h
    exact fun H locs ls cells slots g1 g2 g3 g4 => pj_st1 X (Nat.blt_eq.mp hk) h g1 g2 g3 g4 (fun lv lv' a1 a2 a3 a4 => lv_istore_n hx hb hd rfl a1 a2 a3 a4)
  case lstore k =>
    obtain rfl : len = 2 := hlen rfl
    obtain ⟨a, st, rfl, h⟩ := pj_pL_e h
    obtain ⟨hk, h⟩ := pj_c_e h
    exact fun H locs ls cells slots g1 g2 g3 g4 => pj_st2 X (Nat.blt_eq.mp hk) h g1 g2 g3 g4 (fun lv lv' a1 a2 a3 a4 => lv_lstore hx hb hd a1 a2 a3 a4)
  case lstore_n k =>
    obtain rfl : len = 1 := hlen rfl
    obtain ⟨a, st, rfl, h⟩ := pj_pL_e h
    obtain ⟨hk, h⟩ := pj_c_e h
    exact fun H locs ls cells slots g1 g2 g3 g4 => pj_st2 X (Nat.blt_eq.mp hk) h g1 g2 g3 g4 (fun lv lv' a1 a2 a3 a4 => lv_lstore_n hx hb hd rfl a1 a2 a3 a4)
  case iinc k n =>
    obtain rfl : len = 3 := hlen rfl
    obtain ⟨a, ha, h⟩ := pj_gI_e h
    exact pj_iinc X hd (of_decide_eq_true h3) ha h
  case iconst n =>
    obtain rfl : len = 1 := hlen rfl
    exact fun H locs ls cells slots g1 g2 g3 g4 => lv_iconst hx hb hd (of_decide_eq_true h3) (h H locs ls cells slots g1 g2 g3 g4)
  case bipush n =>
    obtain rfl : len = 2 := hlen rfl
    exact fun H locs ls cells slots g1 g2 g3 g4 => lv_bipush hx hb hd (of_decide_eq_true h3) (h H locs ls cells slots g1 g2 g3 g4)
  case sipush n =>
    obtain rfl : len = 3 := hlen rfl
    exact fun H locs ls cells slots g1 g2 g3 g4 => lv_sipush hx hb hd (of_decide_eq_true h3) (h H locs ls cells slots g1 g2 g3 g4)
  case lconst n =>
    obtain rfl : len = 1 := hlen rfl
    exact fun H locs ls cells slots g1 g2 g3 g4 => lv_lconst hx hb hd (of_decide_eq_true h3) (h H locs ls cells slots g1 g2 g3 g4)
  case ldc k =>
    obtain rfl : len = 2 := hlen rfl
    rcases z with _ | z
    · exact fun H locs ls cells slots g1 g2 g3 g4 => lv_ldc hx hb X.2.2.2.1 (X.2.2.2.2.1 _ (pj_conI h3)) hd (h H locs ls cells slots g1 g2 g3 g4)
    · have h3 : (Nat.beq own 6 && Nat.beq k 38) = true := h3
      rw [Bool.and_eq_true] at h3
      obtain rfl := Nat.eq_of_beq_eq_true h3.1
      obtain rfl := Nat.eq_of_beq_eq_true h3.2
      exact fun H locs ls cells slots g1 g2 g3 g4 => pj_ldcS X hd (h H locs ls cells slots g1 g2 g3 g4)
  case ldc_w k =>
    obtain rfl : len = 3 := hlen rfl
    exact fun H locs ls cells slots g1 g2 g3 g4 => lv_ldcw hx hb X.2.2.2.1 (X.2.2.2.2.1 _ (pj_conI h3)) hd (h H locs ls cells slots g1 g2 g3 g4)
  case ldc2_w k =>
    obtain rfl : len = 3 := hlen rfl
    exact fun H locs ls cells slots g1 g2 g3 g4 => lv_ldc2 hx hb X.2.2.2.1 (X.2.2.2.2.1 _ (pj_conL h3)) hd (h H locs ls cells slots g1 g2 g3 g4)
  case iadd =>
    obtain rfl : len = 1 := hlen rfl
    obtain ⟨b, st, rfl, h⟩ := pj_pI_e h
    obtain ⟨a, st, rfl, h⟩ := pj_pI_e h
    exact fun H locs ls cells slots g1 g2 g3 g4 => lv_iadd hx hb hd (h H locs ls cells slots g1 g2 g3 g4)
  case isub =>
    obtain rfl : len = 1 := hlen rfl
    obtain ⟨b, st, rfl, h⟩ := pj_pI_e h
    obtain ⟨a, st, rfl, h⟩ := pj_pI_e h
    exact fun H locs ls cells slots g1 g2 g3 g4 => lv_isub hx hb hd (h H locs ls cells slots g1 g2 g3 g4)
  case imul =>
    obtain rfl : len = 1 := hlen rfl
    obtain ⟨b, st, rfl, h⟩ := pj_pI_e h
    obtain ⟨a, st, rfl, h⟩ := pj_pI_e h
    exact fun H locs ls cells slots g1 g2 g3 g4 => lv_imul hx hb hd (h H locs ls cells slots g1 g2 g3 g4)
  case iand =>
    obtain rfl : len = 1 := hlen rfl
    obtain ⟨b, st, rfl, h⟩ := pj_pI_e h
    obtain ⟨a, st, rfl, h⟩ := pj_pI_e h
    exact fun H locs ls cells slots g1 g2 g3 g4 => lv_iand hx hb hd (h H locs ls cells slots g1 g2 g3 g4)
  case ior =>
    obtain rfl : len = 1 := hlen rfl
    obtain ⟨b, st, rfl, h⟩ := pj_pI_e h
    obtain ⟨a, st, rfl, h⟩ := pj_pI_e h
    exact fun H locs ls cells slots g1 g2 g3 g4 => lv_ior hx hb hd (h H locs ls cells slots g1 g2 g3 g4)
  case ixor =>
    obtain rfl : len = 1 := hlen rfl
    obtain ⟨b, st, rfl, h⟩ := pj_pI_e h
    obtain ⟨a, st, rfl, h⟩ := pj_pI_e h
    exact fun H locs ls cells slots g1 g2 g3 g4 => lv_ixor hx hb hd (h H locs ls cells slots g1 g2 g3 g4)
  case ishl =>
    obtain rfl : len = 1 := hlen rfl
    obtain ⟨b, st, rfl, h⟩ := pj_pI_e h
    obtain ⟨a, st, rfl, h⟩ := pj_pI_e h
    exact fun H locs ls cells slots g1 g2 g3 g4 => lv_ishl hx hb hd (h H locs ls cells slots g1 g2 g3 g4)
  case ishr =>
    obtain rfl : len = 1 := hlen rfl
    obtain ⟨b, st, rfl, h⟩ := pj_pI_e h
    obtain ⟨a, st, rfl, h⟩ := pj_pI_e h
    exact fun H locs ls cells slots g1 g2 g3 g4 => lv_ishr hx hb hd (h H locs ls cells slots g1 g2 g3 g4)
  case iushr =>
    obtain rfl : len = 1 := hlen rfl
    obtain ⟨b, st, rfl, h⟩ := pj_pI_e h
    obtain ⟨a, st, rfl, h⟩ := pj_pI_e h
    exact fun H locs ls cells slots g1 g2 g3 g4 => lv_iushr hx hb hd rfl (h H locs ls cells slots g1 g2 g3 g4)
  case idiv =>
    obtain rfl : len = 1 := hlen rfl
    obtain ⟨b, st, rfl, h⟩ := pj_pI_e h
    obtain ⟨a, st, rfl, h⟩ := pj_pI_e h
    exact fun H locs ls cells slots g1 g2 g3 g4 => lv_idiv hx hb hd h.1 (h.2 H locs ls cells slots g1 g2 g3 g4)
  case irem =>
    obtain rfl : len = 1 := hlen rfl
    obtain ⟨b, st, rfl, h⟩ := pj_pI_e h
    obtain ⟨a, st, rfl, h⟩ := pj_pI_e h
    exact fun H locs ls cells slots g1 g2 g3 g4 => lv_irem hx hb hd h.1 (h.2 H locs ls cells slots g1 g2 g3 g4)
  case ladd =>
    obtain rfl : len = 1 := hlen rfl
    obtain ⟨b, st, rfl, h⟩ := pj_pL_e h
    obtain ⟨a, st, rfl, h⟩ := pj_pL_e h
    exact fun H locs ls cells slots g1 g2 g3 g4 => lv_ladd hx hb hd (h H locs ls cells slots g1 g2 g3 g4)
  case lsub =>
    obtain rfl : len = 1 := hlen rfl
    obtain ⟨b, st, rfl, h⟩ := pj_pL_e h
    obtain ⟨a, st, rfl, h⟩ := pj_pL_e h
    exact fun H locs ls cells slots g1 g2 g3 g4 => lv_lsub hx hb hd (h H locs ls cells slots g1 g2 g3 g4)
  case lmul =>
    obtain rfl : len = 1 := hlen rfl
    obtain ⟨b, st, rfl, h⟩ := pj_pL_e h
    obtain ⟨a, st, rfl, h⟩ := pj_pL_e h
    exact fun H locs ls cells slots g1 g2 g3 g4 => lv_lmul hx hb hd (h H locs ls cells slots g1 g2 g3 g4)
  case land =>
    obtain rfl : len = 1 := hlen rfl
    obtain ⟨b, st, rfl, h⟩ := pj_pL_e h
    obtain ⟨a, st, rfl, h⟩ := pj_pL_e h
    exact fun H locs ls cells slots g1 g2 g3 g4 => lv_land hx hb hd (h H locs ls cells slots g1 g2 g3 g4)
  case lor =>
    obtain rfl : len = 1 := hlen rfl
    obtain ⟨b, st, rfl, h⟩ := pj_pL_e h
    obtain ⟨a, st, rfl, h⟩ := pj_pL_e h
    exact fun H locs ls cells slots g1 g2 g3 g4 => lv_lor hx hb hd (h H locs ls cells slots g1 g2 g3 g4)
  case ldiv =>
    obtain rfl : len = 1 := hlen rfl
    obtain ⟨b, st, rfl, h⟩ := pj_pL_e h
    obtain ⟨a, st, rfl, h⟩ := pj_pL_e h
    exact fun H locs ls cells slots g1 g2 g3 g4 => lv_ldiv hx hb hd h.1 (h.2 H locs ls cells slots g1 g2 g3 g4)
  case lrem =>
    obtain rfl : len = 1 := hlen rfl
    obtain ⟨b, st, rfl, h⟩ := pj_pL_e h
    obtain ⟨a, st, rfl, h⟩ := pj_pL_e h
    exact fun H locs ls cells slots g1 g2 g3 g4 => lv_lrem hx hb hd h.1 (h.2 H locs ls cells slots g1 g2 g3 g4)
  case lshl =>
    obtain rfl : len = 1 := hlen rfl
    obtain ⟨b, st, rfl, h⟩ := pj_pI_e h
    obtain ⟨a, st, rfl, h⟩ := pj_pL_e h
    exact fun H locs ls cells slots g1 g2 g3 g4 => lv_lshl hx hb hd rfl (h H locs ls cells slots g1 g2 g3 g4)
  case lshr =>
    obtain rfl : len = 1 := hlen rfl
    obtain ⟨b, st, rfl, h⟩ := pj_pI_e h
    obtain ⟨a, st, rfl, h⟩ := pj_pL_e h
    exact fun H locs ls cells slots g1 g2 g3 g4 => lv_lshr hx hb hd rfl (h H locs ls cells slots g1 g2 g3 g4)
  case lcmp =>
    obtain rfl : len = 1 := hlen rfl
    obtain ⟨b, st, rfl, h⟩ := pj_pL_e h
    obtain ⟨a, st, rfl, h⟩ := pj_pL_e h
    exact fun H locs ls cells slots g1 g2 g3 g4 => W.lcmp hx hb hd (h H locs ls cells slots g1 g2 g3 g4)
  case i2l =>
    obtain rfl : len = 1 := hlen rfl
    obtain ⟨b, st, rfl, h⟩ := pj_pI_e h
    exact fun H locs ls cells slots g1 g2 g3 g4 => lv_i2l hx hb hd rfl (h H locs ls cells slots g1 g2 g3 g4)
  case l2i =>
    obtain rfl : len = 1 := hlen rfl
    obtain ⟨b, st, rfl, h⟩ := pj_pL_e h
    exact fun H locs ls cells slots g1 g2 g3 g4 => lv_l2i hx hb hd rfl (h H locs ls cells slots g1 g2 g3 g4)
  case dup =>
    obtain rfl : len = 1 := hlen rfl
    obtain ⟨b, st, rfl, hc, h⟩ := pj_pV_e (k := fun a st => pj_W ω p l e R s m args below meth c nL QW (pc + 1) L (a :: a :: st) Z I J bc bs) h
    exact fun H locs ls cells slots g1 g2 g3 g4 => lv_dup hx hb hd (by rw [pj_cv_cat]; exact hc) (h H locs ls cells slots g1 g2 g3 g4)
  case dup2 =>
    obtain rfl : len = 1 := hlen rfl
    obtain ⟨a, st, rfl, hc, h⟩ := pj_pV_e (k := fun a st => pj_pV st fun b st => pj_W ω p l e R s m args below meth c nL QW (pc + 1) L (a :: b :: a :: b :: st) Z I J bc bs) h
    obtain ⟨b, st, rfl, hc2, h⟩ := pj_pV_e (k := fun b st => pj_W ω p l e R s m args below meth c nL QW (pc + 1) L (a :: b :: a :: b :: st) Z I J bc bs) h
    exact fun H locs ls cells slots g1 g2 g3 g4 => lv_dup2_11 hx hb hd (by rw [pj_cv_cat]; exact hc) (by rw [pj_cv_cat]; exact hc2) (h H locs ls cells slots g1 g2 g3 g4)
  case pop =>
    obtain rfl : len = 1 := hlen rfl
    obtain ⟨b, st, rfl, hc, h⟩ := pj_pV_e (k := fun a st => pj_W ω p l e R s m args below meth c nL QW (pc + 1) L st Z I J bc bs) h
    exact fun H locs ls cells slots g1 g2 g3 g4 => lv_pop hx hb hd (by rw [pj_cv_cat]; exact hc) (h H locs ls cells slots g1 g2 g3 g4)
  case if_icmp cd o =>
    obtain rfl : len = 3 := hlen rfl
    have ht : (pc : Int) + o = (x : Int) := of_decide_eq_true h3
    obtain ⟨b, st, rfl, h⟩ := pj_pI_e h
    obtain ⟨a, st, rfl, h⟩ := pj_pI_e h
    intro H locs ls cells slots g1 g2 g3 g4
    cases cd
    case eq => exact lv_icmp_eq hx hb hd ht (fun q => h.1 q H locs ls cells slots g1 g2 g3 g4) (fun q => h.2 q H locs ls cells slots g1 g2 g3 g4)
    case ne => exact lv_icmp_ne hx hb hd ht (fun q => h.1 q H locs ls cells slots g1 g2 g3 g4) (fun q => h.2 q H locs ls cells slots g1 g2 g3 g4)
    case lt => exact lv_icmp_lt hx hb hd ht (fun q => h.1 q H locs ls cells slots g1 g2 g3 g4) (fun q => h.2 q H locs ls cells slots g1 g2 g3 g4)
    case ge => exact lv_icmp_ge hx hb hd ht (fun q => h.1 q H locs ls cells slots g1 g2 g3 g4) (fun q => h.2 q H locs ls cells slots g1 g2 g3 g4)
    case gt => exact lv_icmp_gt hx hb hd ht (fun q => h.1 q H locs ls cells slots g1 g2 g3 g4) (fun q => h.2 q H locs ls cells slots g1 g2 g3 g4)
    case le => exact lv_icmp_le hx hb hd ht (fun q => h.1 q H locs ls cells slots g1 g2 g3 g4) (fun q => h.2 q H locs ls cells slots g1 g2 g3 g4)
  case ifCond cd o =>
    obtain rfl : len = 3 := hlen rfl
    have ht : (pc : Int) + o = (x : Int) := of_decide_eq_true h3
    obtain ⟨a, st, rfl, h⟩ := pj_pI_e h
    intro H locs ls cells slots g1 g2 g3 g4
    cases cd
    case eq => exact lv_if_eq hx hb hd ht (fun q => h.1 q H locs ls cells slots g1 g2 g3 g4) (fun q => h.2 q H locs ls cells slots g1 g2 g3 g4)
    case ne => exact lv_if_ne hx hb hd ht (fun q => h.1 q H locs ls cells slots g1 g2 g3 g4) (fun q => h.2 q H locs ls cells slots g1 g2 g3 g4)
    case lt => exact lv_if_lt hx hb hd ht (fun q => h.1 q H locs ls cells slots g1 g2 g3 g4) (fun q => h.2 q H locs ls cells slots g1 g2 g3 g4)
    case ge => exact lv_if_ge hx hb hd ht (fun q => h.1 q H locs ls cells slots g1 g2 g3 g4) (fun q => h.2 q H locs ls cells slots g1 g2 g3 g4)
    case gt => exact lv_if_gt hx hb hd ht (fun q => h.1 q H locs ls cells slots g1 g2 g3 g4) (fun q => h.2 q H locs ls cells slots g1 g2 g3 g4)
    case le => exact lv_if_le hx hb hd ht (fun q => h.1 q H locs ls cells slots g1 g2 g3 g4) (fun q => h.2 q H locs ls cells slots g1 g2 g3 g4)
  case goto o =>
    obtain rfl : len = 3 := hlen rfl
    exact fun H locs ls cells slots g1 g2 g3 g4 => lv_goto hx hb hd (of_decide_eq_true h3) (h H locs ls cells slots g1 g2 g3 g4)
  case tableswitch D lo hi os =>
    obtain ⟨a, st, rfl, h⟩ := pj_pI_e h
    simp only [Bool.and_eq_true, decide_eq_true_eq, List.all_eq_true] at h3
    obtain ⟨⟨⟨⟨⟨e1, e2⟩, e3⟩, e4⟩, e5⟩, e6⟩ := h3
    try dsimp only at e1 e2
    rw [e2] at h
    have hsz : os.toList.length = os.size := Array.length_toList
    obtain ⟨t1, t2⟩ := pj_sw_tab (pc := pc) os.toList lo e4 (by rw [hsz]; omega) h
    intro H locs ls cells slots g1 g2 g3 g4
    by_cases hin : a.toInt < lo ∨ hi < a.toInt
    · exact lv_tableOut hx hb hd hin e1 (t1 (by rw [hsz]; omega) H locs ls cells slots g1 g2 g3 g4)
    · have hlt : (a.toInt - lo).toNat < os.size := by omega
      have hg : os[(a.toInt - lo).toNat]? = some (os[(a.toInt - lo).toNat]'hlt) := Array.getElem?_eq_getElem hlt
      have hg2 : os.toList[(a.toInt - lo).toNat]? = some (os[(a.toInt - lo).toNat]'hlt) := by rw [Array.getElem?_toList]; exact hg
      have hpos := e6 _ (List.mem_of_getElem? hg2)
      exact lv_tableIn hx hb hd (fun q => hin (Or.inl q)) (fun q => hin (Or.inr q)) hg (by omega) (t2 _ (fun q => hin (Or.inl q)) hg2 H locs ls cells slots g1 g2 g3 g4)
  case lookupswitch D ps =>
    obtain ⟨a, st, rfl, h⟩ := pj_pI_e h
    simp only [Bool.and_eq_true, decide_eq_true_eq] at h3
    obtain ⟨⟨⟨e1, e2⟩, e3⟩, e4⟩ := h3
    try dsimp only at e1 e2
    rw [e2] at h
    obtain ⟨t, q1, q2⟩ := pj_sw_lok (pc := pc) ps.toList D (fun o ho => by
      have := List.all_eq_true.mp e4 o ho
      simp only [Bool.and_eq_true, decide_eq_true_eq] at this
      exact ⟨this.1.2, this.2, this.1.1⟩) e1 h
    exact fun H locs ls cells slots g1 g2 g3 g4 => lv_lookup hx hb hd e3 rfl q1 (q2 H locs ls cells slots g1 g2 g3 g4)
  case getfield k =>
    obtain rfl : len = 3 := hlen rfl
    obtain ⟨a, st, rfl, h⟩ := pj_pR_e h
    obtain ⟨ha, h⟩ := pj_c_e h
    have ha := Nat.eq_of_beq_eq_true ha
    intro H locs ls cells slots g1 g2 g3 g4
    refine pj_get X hd h3 ha g1 (fun hft => ?_)
    unfold pj_fv
    rcases z with _ | _ | _ | z
    · rw [hft]; exact h H locs ls cells slots g1 g2 g3 g4
    · rw [hft]; exact h H locs ls cells slots g1 g2 g3 g4
    · obtain ⟨hs, h⟩ := pj_c_e h
      rw [hft]
      obtain ⟨r, hr⟩ := Option.isSome_iff_exists.mp hs
      have h := h H locs ls cells slots g1 g2 g3 g4
      rw [hr] at h
      show W p l e R s m args below meth c H locs cells slots QW (F0 m (pc + 3) ls (va_rf (Option.map (pj_ad ω) (Z.2.2.2 a y)) :: _))
      rw [hr]
      exact h
    · have h : pj_W ω p l e R s m args below meth c nL QW (pc + 3) L (.int (I a y) :: st) Z I J bc bs := h
      have h := h H locs ls cells slots g1 g2 g3 g4
      rw [hft]
      exact h
  case putfield k =>
    obtain rfl : len = 3 := hlen rfl
    rcases z with _ | _ | _ | z
    · obtain ⟨b, st, rfl, h⟩ := pj_pI_e h
      obtain ⟨a, st, rfl, h⟩ := pj_pR_e h
      obtain ⟨ha, h⟩ := pj_c_e h
      have ha := Nat.eq_of_beq_eq_true ha
      intro H locs ls cells slots g1 g2 g3 g4
      by_cases h0 : a = 0
      · subst h0
        exact absurd ha (by rw [g1.1.2.1]; intro q; have h3' : (cpF.any fun q => Nat.beq q.1 own && Nat.beq q.2.1 k && Nat.beq q.2.2.1 x && Nat.beq q.2.2.2.1 y && Nat.beq q.2.2.2.2.1 0) = true := (by obtain ⟨q, hq, h⟩ := List.any_eq_true.mp h3; rw [Bool.and_eq_true] at h; exact List.any_eq_true.mpr ⟨q, hq, h.1⟩); obtain ⟨r, hr, -⟩ := pj_fld h3'; have := (pj_cls hr).1; omega)
      refine pj_put X hini hd h3 ha g1 (v := .int b) (pj_put1 h3 (pj_ftN b)) (Z' := Z) (I' := pj_u I a y b) (J' := J) (fun hft j => ?_) ⟨rfl, rfl, rfl⟩ (fun j hj => pj_we_eq rfl rfl rfl (pj_u_fun _ _ _ _ hj) rfl) (pj_u_fun _ _ _ _ (fun q => h0 q.symm)) (fun H1 locs1 hw => h H1 locs1 ls cells slots hw g2 g3 g4)
      by_cases hj : j = y
      · subst hj; rw [if_pos rfl]; unfold pj_fv; rw [hft, pj_u_same]; rfl
      · rw [if_neg hj]; unfold pj_fv; rw [pj_u_col _ _ _ _ _ hj]
    · obtain ⟨b, st, rfl, h⟩ := pj_pL_e h
      obtain ⟨a, st, rfl, h⟩ := pj_pR_e h
      obtain ⟨ha, h⟩ := pj_c_e h
      have ha := Nat.eq_of_beq_eq_true ha
      intro H locs ls cells slots g1 g2 g3 g4
      refine pj_put X hini hd h3 ha g1 (v := .long b) (pj_put1 h3 (pj_ftL b)) (Z' := Z) (I' := I) (J' := pj_u J a y b) (fun hft j => ?_) ⟨rfl, rfl, rfl⟩ (fun j hj => pj_we_eq rfl rfl rfl rfl (pj_u_fun _ _ _ _ hj)) rfl (fun H1 locs1 hw => h H1 locs1 ls cells slots hw g2 g3 g4)
      by_cases hj : j = y
      · subst hj; rw [if_pos rfl]; unfold pj_fv; rw [hft, pj_u_same]; rfl
      · rw [if_neg hj]; unfold pj_fv; rw [pj_u_col _ _ _ _ _ hj]
    · obtain ⟨b, st, rfl, h⟩ := pj_pR_e h
      obtain ⟨a, st, rfl, h⟩ := pj_pR_e h
      obtain ⟨ha, h⟩ := pj_c_e h
      have ha := Nat.eq_of_beq_eq_true ha
      intro H locs ls cells slots g1 g2 g3 g4
      have h3' : (cpF.any fun q => Nat.beq q.1 own && Nat.beq q.2.1 k && Nat.beq q.2.2.1 x && Nat.beq q.2.2.2.1 y && Nat.beq q.2.2.2.2.1 2) = true := by
        obtain ⟨q, hq, h⟩ := List.any_eq_true.mp h3
        rw [Bool.and_eq_true] at h
        exact List.any_eq_true.mpr ⟨q, hq, h.1⟩
      obtain ⟨r, hr, hy, -, hft0, -⟩ := pj_fld h3'
      obtain ⟨hx13, -, -, -, hnf, -⟩ := pj_cls hr
      have hyk := List.all_eq_true.mp pj_okY_all x (List.mem_range.mpr hx13)
      unfold pj_okY at hyk
      have hyk := List.all_eq_true.mp hyk y (List.mem_range.mpr (by omega))
      have hty : ∀ ty, pj_ftc ty = 2 → (match ty with | .int => true | .long => true | .boolean => true | .object _ => true | .array _ => true | _ => false) = true → narrow ty (.ref (pj_ad ω b)) = .ref (pj_ad ω b) ∧ fits ty (.ref (pj_ad ω b)) = true := by
        intro ty q1 q2
        cases ty <;> first | exact ⟨rfl, rfl⟩ | exact absurd q1 (by decide) | exact absurd q2 (by decide)
      refine pj_putR X hini hd h3 ha g1 (hty (pj_ty x y) hft0 hyk) (fun H1 locs1 hw => h H1 locs1 ls cells slots hw g2 g3 g4)
    · obtain ⟨b, st1, rfl, k1⟩ := pj_pI_e h
      clear h
      obtain ⟨a, st, rfl, k2⟩ := pj_pR_e k1
      clear k1
      obtain ⟨ha0, k3⟩ := pj_c_e k2
      clear k2
      have ha := Nat.eq_of_beq_eq_true ha0
      clear ha0
      intro H locs ls cells slots g1 g2 g3 g4
      have h3' : (cpF.any fun q => Nat.beq q.1 own && Nat.beq q.2.1 k && Nat.beq q.2.2.1 x && Nat.beq q.2.2.2.1 y && Nat.beq q.2.2.2.2.1 (z + 1 + 1 + 1)) = true := by
        obtain ⟨q, hq, h⟩ := List.any_eq_true.mp h3
        rw [Bool.and_eq_true] at h
        exact List.any_eq_true.mpr ⟨q, hq, h.1⟩
      obtain ⟨r, hr, hy, -, hft0, -⟩ := pj_fld h3'
      have hz : z = 0 := by
        have : ∀ ty, pj_ftc ty = z + 1 + 1 + 1 → z = 0 := by
          intro ty q
          cases ty <;> simp [pj_ftc] at q <;> omega
        exact this _ hft0
      subst hz
      by_cases h0 : a = 0
      · subst h0
        exact absurd ha (by rw [g1.1.2.1]; intro q; have := (pj_cls hr).1; omega)
      refine pj_put X hini hd h3 ha g1 (v := .int b) (pj_put1 h3 (pj_ftZ k3.1)) (Z' := Z) (I' := pj_u I a y b) (J' := J) (fun hft j => ?_) ⟨rfl, rfl, rfl⟩ (fun j hj => pj_we_eq rfl rfl rfl (pj_u_fun _ _ _ _ hj) rfl) (pj_u_fun _ _ _ _ (fun q => h0 q.symm)) (fun H1 locs1 hw => k3.2 H1 locs1 ls cells slots hw g2 g3 g4)
      by_cases hj : j = y
      · subst hj; rw [if_pos rfl]; unfold pj_fv; rw [hft, pj_u_same]; rfl
      · rw [if_neg hj]; unfold pj_fv; rw [pj_u_col _ _ _ _ _ hj]
  case iaload =>
    obtain rfl : len = 1 := hlen rfl
    obtain ⟨b, st, rfl, h⟩ := pj_pI_e h
    obtain ⟨a, st, rfl, h⟩ := pj_pR_e h
    obtain ⟨ha, h⟩ := pj_c_e h
    rw [Bool.or_eq_true] at ha
    exact fun H locs ls cells slots g1 g2 g3 g4 => pj_ial X hd (ha.imp Nat.eq_of_beq_eq_true Nat.eq_of_beq_eq_true) h.1 g1 (h.2 H locs ls cells slots g1 g2 g3 g4)
  case laload =>
    obtain rfl : len = 1 := hlen rfl
    obtain ⟨b, st, rfl, h⟩ := pj_pI_e h
    obtain ⟨a, st, rfl, h⟩ := pj_pR_e h
    obtain ⟨ha, h⟩ := pj_c_e h
    exact fun H locs ls cells slots g1 g2 g3 g4 => pj_lal X hd (Nat.eq_of_beq_eq_true ha) h.1 g1 (h.2 H locs ls cells slots g1 g2 g3 g4)
  case baload =>
    obtain rfl : len = 1 := hlen rfl
    obtain ⟨b, st, rfl, h⟩ := pj_pI_e h
    obtain ⟨a, st, rfl, h⟩ := pj_pR_e h
    obtain ⟨ha, h⟩ := pj_c_e h
    exact fun H locs ls cells slots g1 g2 g3 g4 => pj_bal X hd (Nat.eq_of_beq_eq_true ha) h.1 g1 (h.2 H locs ls cells slots g1 g2 g3 g4)
  case aaload =>
    obtain rfl : len = 1 := hlen rfl
    obtain ⟨b, st, rfl, h⟩ := pj_pI_e h
    obtain ⟨a, st, rfl, h⟩ := pj_pR_e h
    obtain ⟨ha, h⟩ := pj_c_e h
    rw [Bool.or_eq_true] at ha
    obtain ⟨h1, h⟩ := h
    obtain ⟨hs, h⟩ := pj_c_e h
    intro H locs ls cells slots g1 g2 g3 g4
    refine pj_aal X hd (ha.imp Nat.eq_of_beq_eq_true Nat.eq_of_beq_eq_true) h1 g1 ?_
    obtain ⟨r, hr⟩ := Option.isSome_iff_exists.mp hs
    have h := h H locs ls cells slots g1 g2 g3 g4
    rw [hr] at h ⊢
    exact h
  case iastore =>
    obtain rfl : len = 1 := hlen rfl
    obtain ⟨q, st, rfl, h⟩ := pj_pI_e h
    obtain ⟨b, st, rfl, h⟩ := pj_pI_e h
    obtain ⟨a, st, rfl, h⟩ := pj_pR_e h
    obtain ⟨ha, h⟩ := pj_c_e h
    exact fun H locs ls cells slots g1 g2 g3 g4 => pj_ias X hd (Nat.eq_of_beq_eq_true ha) h.1 g1 (fun H1 locs1 hw => h.2 H1 locs1 ls cells slots hw g2 g3 g4)
  case lastore =>
    obtain rfl : len = 1 := hlen rfl
    obtain ⟨q, st, rfl, h⟩ := pj_pL_e h
    obtain ⟨b, st, rfl, h⟩ := pj_pI_e h
    obtain ⟨a, st, rfl, h⟩ := pj_pR_e h
    obtain ⟨ha, h⟩ := pj_c_e h
    exact fun H locs ls cells slots g1 g2 g3 g4 => pj_las X hd (Nat.eq_of_beq_eq_true ha) h.1 g1 (fun H1 locs1 hw => h.2 H1 locs1 ls cells slots hw g2 g3 g4)
  case bastore =>
    obtain rfl : len = 1 := hlen rfl
    obtain ⟨q, st, rfl, h⟩ := pj_pI_e h
    obtain ⟨b, st, rfl, h⟩ := pj_pI_e h
    obtain ⟨a, st, rfl, h⟩ := pj_pR_e h
    obtain ⟨ha, h⟩ := pj_c_e h
    exact fun H locs ls cells slots g1 g2 g3 g4 => pj_bas X hd (Nat.eq_of_beq_eq_true ha) h.1 g1 (fun H1 locs1 hw => h.2 H1 locs1 ls cells slots hw g2 g3 g4)
  case aastore =>
    obtain rfl : len = 1 := hlen rfl
    obtain ⟨q, st, rfl, h⟩ := pj_pR_e h
    obtain ⟨b, st, rfl, h⟩ := pj_pI_e h
    obtain ⟨a, st, rfl, h⟩ := pj_pR_e h
    obtain ⟨ha, h⟩ := pj_c_e h
    rw [Bool.and_eq_true] at ha
    exact fun H locs ls cells slots g1 g2 g3 g4 => pj_aas X hd (Nat.eq_of_beq_eq_true ha.1) (Nat.eq_of_beq_eq_true ha.2) h.1 g1 (fun H1 locs1 hw => h.2 H1 locs1 ls cells slots hw g2 g3 g4)
  case arraylength =>
    obtain rfl : len = 1 := hlen rfl
    obtain ⟨a, st, rfl, h⟩ := pj_pR_e h
    obtain ⟨ha, h⟩ := pj_c_e h
    rw [Bool.and_eq_true] at ha
    exact fun H locs ls cells slots g1 g2 g3 g4 => pj_alen X hd (Nat.le_of_ble_eq_true ha.1) (Nat.le_of_ble_eq_true ha.2) g1 (h H locs ls cells slots g1 g2 g3 g4)
  case newarray at' =>
    obtain rfl : len = 2 := hlen rfl
    obtain ⟨n, st, rfl, h⟩ := pj_pI_e h
    obtain ⟨hb2, h⟩ := pj_c_e h
    simp only [Bool.and_eq_true, Bool.not_eq_true', decide_eq_false_iff_not] at hb2
    obtain ⟨⟨⟨b1, b2⟩, b3⟩, b4⟩ := hb2
    have b1 := Nat.le_of_ble_eq_true b1
    have b2 := Nat.le_of_ble_eq_true b2
    have b3 := Nat.le_of_ble_eq_true b3
    have hat : (at' = .int ∧ x = 13) ∨ (at' = .long ∧ x = 14) ∨ (at' = .boolean ∧ x = 15) := by
      cases at' <;> first | exact Or.inl ⟨rfl, Nat.eq_of_beq_eq_true h3⟩ | exact Or.inr (Or.inl ⟨rfl, Nat.eq_of_beq_eq_true h3⟩) | exact Or.inr (Or.inr ⟨rfl, Nat.eq_of_beq_eq_true h3⟩) | cases h3
    exact fun H locs ls cells slots g1 g2 g3 g4 => pj_newa X hd hat g1 b4 b3 (by omega) (by omega) (fun H1 hw => h H1 locs ls (cells + 1) (slots + n.toNatClampNeg) hw (by omega) (by omega) g4)
  case anewarray k =>
    obtain rfl : len = 3 := hlen rfl
    obtain ⟨n, st, rfl, h⟩ := pj_pI_e h
    obtain ⟨hb2, h⟩ := pj_c_e h
    simp only [Bool.and_eq_true, Bool.not_eq_true', decide_eq_false_iff_not] at hb2
    obtain ⟨⟨⟨b1, b2⟩, b3⟩, b4⟩ := hb2
    have b1 := Nat.le_of_ble_eq_true b1
    have b2 := Nat.le_of_ble_eq_true b2
    have b3 := Nat.le_of_ble_eq_true b3
    have h3 : (Nat.beq own 1 && Nat.beq k 9) = true := h3
    rw [Bool.and_eq_true] at h3
    exact fun H locs ls cells slots g1 g2 g3 g4 => pj_newq X hd ⟨Nat.eq_of_beq_eq_true h3.1, Nat.eq_of_beq_eq_true h3.2⟩ g1 b4 b3 (by omega) (by omega) (fun H1 hw => h H1 locs ls (cells + 1) (slots + n.toNatClampNeg) hw (by omega) (by omega) g4)
  case multianewarray k dm =>
    obtain rfl : len = 4 := hlen rfl
    obtain ⟨q, st1, rfl, k1⟩ := pj_pI_e h
    clear h
    obtain ⟨n, st, rfl, k2⟩ := pj_pI_e k1
    clear k1
    obtain ⟨hb2, k3⟩ := pj_c_e k2
    clear k2
    simp only [Bool.and_eq_true, Bool.not_eq_true', decide_eq_false_iff_not] at hb2
    obtain ⟨⟨⟨⟨⟨b1', b2'⟩, b3'⟩, b4'⟩, b5⟩, b6⟩ := hb2
    have b1 := Nat.le_of_ble_eq_true b1'
    have b2 := Nat.le_of_ble_eq_true b2'
    have b3 := Nat.le_of_ble_eq_true b3'
    have b4 := Nat.le_of_ble_eq_true b4'
    have h4 : (((Nat.beq own 2 && Nat.beq k 9) || (Nat.beq own 9 && Nat.beq k 26)) && Nat.beq dm 2) = true := h3
    clear h3
    simp only [Bool.and_eq_true, Bool.or_eq_true] at h4
    obtain ⟨h5, hdm⟩ := h4
    have hdm := Nat.eq_of_beq_eq_true hdm
    subst hdm
    have ho : (own = 2 ∧ k = 9) ∨ (own = 9 ∧ k = 26) := h5.imp (fun q => ⟨Nat.eq_of_beq_eq_true q.1, Nat.eq_of_beq_eq_true q.2⟩) (fun q => ⟨Nat.eq_of_beq_eq_true q.1, Nat.eq_of_beq_eq_true q.2⟩)
    intro H locs ls cells slots g1 g2 g3 g4
    generalize hnq : n.toNatClampNeg * q.toNatClampNeg = NQ at b2 k3
    exact pj_mna X hd ho g1 b5 b6 b3 b4 (by omega) (by rw [hnq]; omega) (fun H1 hw => by rw [hnq]; exact k3 H1 locs ls _ _ hw (by omega) (by omega) g4)
  case new k =>
    obtain rfl : len = 3 := hlen rfl
    obtain ⟨hb2, h⟩ := pj_c_e h
    rw [Bool.and_eq_true] at hb2
    have b1 := Nat.le_of_ble_eq_true hb2.1
    have b2 := Nat.le_of_ble_eq_true hb2.2
    simp only [Bool.and_eq_true] at h3
    obtain ⟨⟨c1, c2⟩, c3⟩ := h3
    exact fun H locs ls cells slots g1 g2 g3 g4 => pj_newo X hd c1 (Nat.eq_of_beq_eq_true c2) (Nat.blt_eq.mp c3) g1 (by omega) (by omega) (fun H1 hw => h H1 locs ls (cells + 1) (slots + y) hw (by omega) (by omega) g4)
  case invokevirtual k =>
    obtain rfl : len = 3 := hlen rfl
    rw [Bool.and_eq_true] at h3
    have h : pj_iv C (pj_W ω p l e R s m args below meth c nL QW) (pc + 3) x y z L st Z I J bc bs := h
    unfold pj_iv at h
    split at h
    · obtain ⟨b, st1, rfl, k1⟩ := pj_pI_e h
      clear h
      obtain ⟨a, st, rfl, k2⟩ := pj_pR_e k1
      clear k1
      obtain ⟨ha, k3⟩ := pj_c_e k2
      clear k2
      rw [Bool.and_eq_true] at ha
      obtain ⟨ha1, ha2⟩ := ha
      have ha1 := Nat.eq_of_beq_eq_true ha1
      subst ha1
      obtain ⟨pl, ne, hk0⟩ := pj_lnk h3.1
      have hk : (Nat.beq own 6 && Nat.beq k 40) = true := hk0
      rw [Bool.and_eq_true] at hk
      obtain ⟨hk1, hk2⟩ := hk
      have hk1 := Nat.eq_of_beq_eq_true hk1
      have hk2 := Nat.eq_of_beq_eq_true hk2
      subst hk1
      subst hk2
      exact fun H locs ls cells slots g1 g2 g3 g4 => pj_chr X (by omega) (by omega) hd g1 k3.1 (pj_lrs g4) (by omega) (by omega) (by rw [pj_cv_sum]; exact Nat.le_of_ble_eq_true ha2) (k3.2 H locs ls cells slots g1 g2 g3 g4)
    · by_cases hbx : Nat.ble 1000 x = true
      · exact (pj_noC hCn (Nat.le_of_ble_eq_true hbx) h).elim
      · exact pj_stepC X hM hR1 hR2 (by cases q : Nat.ble 1000 x <;> first | rfl | exact absurd q hbx) h3.1 h3.2 (Or.inl ⟨rfl, rfl, hd⟩) (Or.inr ⟨by decide, rfl, rfl⟩) h
  case invokespecial k =>
    obtain rfl : len = 3 := hlen rfl
    rw [Bool.and_eq_true] at h3
    have h : pj_ip C ta (pj_W ω p l e R s m args below meth c nL QW) (pc + 3) x y z L st Z I J bc bs := h
    unfold pj_ip at h
    split at h
    · obtain ⟨a, st, rfl, h⟩ := pj_pR_e h
      obtain ⟨ha, h⟩ := pj_c_e h
      obtain ⟨pl, ne, hk⟩ := pj_lnk h3.1
      exact fun H locs ls cells slots g1 g2 g3 g4 => pj_obi X (pj_tb (of_decide_eq_true hk)) hd (pj_lrs g4) (by rw [pj_cv_sum]; exact Nat.le_of_ble_eq_true ha) (h H locs ls cells slots g1 g2 g3 g4)
    · by_cases hbx : Nat.ble 1000 x = true
      · exact (pj_noC hCn (Nat.le_of_ble_eq_true hbx) h).elim
      · exact pj_stepC X hM hR1 hR2 (by cases q : Nat.ble 1000 x <;> first | rfl | exact absurd q hbx) h3.1 h3.2 (Or.inr (Or.inr ⟨rfl, rfl, hd⟩)) (Or.inl ⟨rfl, rfl⟩) h
  case invokestatic k =>
    obtain rfl : len = 3 := hlen rfl
    rw [Bool.and_eq_true] at h3
    have h : pj_is C (pj_W ω p l e R s m args below meth c nL QW) (pc + 3) x y z L st Z I J bc bs := h
    unfold pj_is at h
    obtain ⟨pl, ne, hk⟩ := pj_lnk h3.1
    have hfr : 1 ≤ R.frames := by omega
    have hlo : 64 ≤ R.locals := by omega
    split at h
    · obtain ⟨b, st1, rfl, k1⟩ := pj_pI_e h
      clear h
      obtain ⟨a, st, rfl, k2⟩ := pj_pI_e k1
      clear k1
      obtain ⟨ha, h⟩ := pj_c_e k2
      clear k2
      have ha := Nat.le_of_ble_eq_true ha
      exact fun H locs ls cells slots g1 g2 g3 g4 => va_mmin hx hb (by rw [X.2.2.1, pj_lrs g4]) X.2.2.2.1 (X.2.2.2.2.1 _ (pj_tb (of_decide_eq_true hk))) (X.2.2.2.2.1 _ (pj_tb (k := 770) (by decide +kernel))) (X.2.2.2.2.1 _ (pj_tb (k := 20) (by decide +kernel))) (X.2.2.2.2.1 _ (pj_tb (k := 771) (by decide +kernel))) hfr (by rw [pj_cv_sum]; omega) (by omega) (by omega) hd (h H locs ls cells slots g1 g2 g3 g4)
    · obtain ⟨b, st1, rfl, k1⟩ := pj_pI_e h
      clear h
      obtain ⟨a, st, rfl, k2⟩ := pj_pI_e k1
      clear k1
      obtain ⟨ha, h⟩ := pj_c_e k2
      clear k2
      have ha := Nat.le_of_ble_eq_true ha
      exact fun H locs ls cells slots g1 g2 g3 g4 => va_mmax hx hb (by rw [X.2.2.1, pj_lrs g4]) X.2.2.2.1 (X.2.2.2.2.1 _ (pj_tb (of_decide_eq_true hk))) (X.2.2.2.2.1 _ (pj_tb (k := 854) (by decide +kernel))) (X.2.2.2.2.1 _ (pj_tb (k := 20) (by decide +kernel))) (X.2.2.2.2.1 _ (pj_tb (k := 855) (by decide +kernel))) hfr (by rw [pj_cv_sum]; omega) (by omega) (by omega) hd (h H locs ls cells slots g1 g2 g3 g4)
    · obtain ⟨a, st, rfl, h⟩ := pj_pI_e h
      obtain ⟨ha, h⟩ := pj_c_e h
      have ha := Nat.le_of_ble_eq_true ha
      exact fun H locs ls cells slots g1 g2 g3 g4 => va_mabs hx hb (by rw [X.2.2.1, pj_lrs g4]) X.2.2.2.1 (X.2.2.2.2.1 _ (pj_tb (of_decide_eq_true hk))) (X.2.2.2.2.1 _ (pj_tb (k := 810) (by decide +kernel))) (X.2.2.2.2.1 _ (pj_tb (k := 20) (by decide +kernel))) (X.2.2.2.2.1 _ (pj_tb (k := 811) (by decide +kernel))) hfr (by rw [pj_cv_sum]; omega) (by omega) (by omega) hd (h H locs ls cells slots g1 g2 g3 g4)
    · obtain ⟨n, st1, rfl, k1⟩ := pj_pI_e h
      clear h
      obtain ⟨dp, st2, rfl, k2⟩ := pj_pI_e k1
      clear k1
      obtain ⟨dd, st3, rfl, k3⟩ := pj_pR_e k2
      clear k2
      obtain ⟨sp, st4, rfl, k4⟩ := pj_pI_e k3
      clear k3
      obtain ⟨a, st, rfl, k5⟩ := pj_pR_e k4
      clear k4
      obtain ⟨ha, h⟩ := pj_c_e k5
      clear k5
      simp only [Bool.and_eq_true] at ha
      obtain ⟨⟨a1, a2⟩, a3⟩ := ha
      obtain ⟨⟨q1, q2, q3, q4, q5⟩, h⟩ := h
      exact fun H locs ls cells slots g1 g2 g3 g4 => pj_copy X hd (pj_tb (of_decide_eq_true hk)) (Nat.eq_of_beq_eq_true a1) (Nat.eq_of_beq_eq_true a2) g1 q1 q2 q3 q4 q5 (by rw [pj_cv_sum]; exact Nat.le_of_ble_eq_true a3) (pj_lrs g4) (fun H1 locs1 hw => h H1 locs1 ls cells slots hw g2 g3 g4)
    · by_cases hbx : Nat.ble 1000 x = true
      · exact (pj_noC hCn (Nat.le_of_ble_eq_true hbx) h).elim
      · exact pj_stepC X hM hR1 hR2 (by cases q : Nat.ble 1000 x <;> first | rfl | exact absurd q hbx) h3.1 h3.2 (Or.inr (Or.inl ⟨rfl, rfl, hd⟩)) (Or.inr ⟨by decide, rfl, rfl⟩) h
  case ireturn =>
    obtain rfl : len = 1 := hlen rfl
    obtain ⟨a, r, rfl, k1⟩ := pj_pI_e h
    clear h
    obtain ⟨hb2, h⟩ := pj_c_e k1
    clear k1
    simp only [Bool.and_eq_true] at hb2
    obtain ⟨⟨b1, b2⟩, b3⟩ := hb2
    obtain rfl : r = [] := List.isEmpty_iff.mp b1
    have b2 := Nat.eq_of_beq_eq_true b2
    have b3 := Nat.eq_of_beq_eq_true b3
    rw [Bool.or_eq_true] at h3
    intro H locs ls cells slots g1 g2 g3 g4
    obtain rfl : cells = R.cells := by omega
    obtain rfl : slots = R.slots := by omega
    refine hE.1 pc H locs ls Z I J a (h3.imp Nat.eq_of_beq_eq_true Nat.eq_of_beq_eq_true) hd ?_ ?_ g1
    · intro hrt; subst hrt; exact h.1
    · cases rt
      · exact h
      · exact h.2
  case lreturn =>
    obtain rfl : len = 1 := hlen rfl
    obtain ⟨a, r, rfl, k1⟩ := pj_pL_e h
    clear h
    obtain ⟨hb2, h⟩ := pj_c_e k1
    clear k1
    simp only [Bool.and_eq_true] at hb2
    obtain ⟨⟨b1, b2⟩, b3⟩ := hb2
    obtain rfl : r = [] := List.isEmpty_iff.mp b1
    have b2 := Nat.eq_of_beq_eq_true b2
    have b3 := Nat.eq_of_beq_eq_true b3
    intro H locs ls cells slots g1 g2 g3 g4
    obtain rfl : cells = R.cells := by omega
    obtain rfl : slots = R.slots := by omega
    exact hE.2.1 pc H locs ls Z I J a (Nat.eq_of_beq_eq_true h3) hd h g1
  case return_ =>
    obtain rfl : len = 1 := hlen rfl
    obtain ⟨hb2, k1⟩ := pj_c_e h
    clear h
    have h := k1
    clear k1
    simp only [Bool.and_eq_true] at hb2
    obtain ⟨⟨b1, b2⟩, b3⟩ := hb2
    obtain rfl : st = [] := List.isEmpty_iff.mp b1
    have b2 := Nat.eq_of_beq_eq_true b2
    have b3 := Nat.eq_of_beq_eq_true b3
    intro H locs ls cells slots g1 g2 g3 g4
    obtain rfl : cells = R.cells := by omega
    obtain rfl : slots = R.slots := by omega
    exact hE.2.2 pc H locs ls Z I J (Nat.eq_of_beq_eq_true h3) hd h g1
  all_goals exact h.elim
end PZ
