/-! the pure machine asks no more of more -/
def pj_le (C C' : pj_CT) : Prop := ∀ (mi : Nat) (args : List Value) (σ : pj_S) (K K' : pj_K), (∀ r s, K r s → K' r s) → C mi args σ K → C' mi args σ K'
theorem pj_c_m {b : Bool} {K K' : Prop} (h : K → K') : pj_c b K → pj_c b K' := by cases b <;> exact fun q => by first | exact h q | exact q
theorem pj_pI_m {st : List Value} {k k' : Int32 → List Value → Prop} (h : ∀ x r, k x r → k' x r) : pj_pI st k → pj_pI st k' := by
  rcases st with _ | ⟨v, r⟩
  · exact id
  · cases v <;> first | exact h _ _ | exact id
theorem pj_pL_m {st : List Value} {k k' : Int64 → List Value → Prop} (h : ∀ x r, k x r → k' x r) : pj_pL st k → pj_pL st k' := by
  rcases st with _ | ⟨v, r⟩
  · exact id
  · cases v <;> first | exact h _ _ | exact id
theorem pj_pR_m {st : List Value} {k k' : Nat → List Value → Prop} (h : ∀ x r, k x r → k' x r) : pj_pR st k → pj_pR st k' := by
  rcases st with _ | ⟨v, r⟩
  · exact id
  · cases v <;> first | exact h _ _ | exact id
theorem pj_pV_m {st : List Value} {k k' : Value → List Value → Prop} (h : ∀ x r, k x r → k' x r) : pj_pV st k → pj_pV st k' := by
  rcases st with _ | ⟨v, r⟩
  · exact id
  · cases v <;> first | exact h _ _ | exact id
theorem pj_gI_m {L : pj_L} {i : Nat} {k k' : Int32 → Prop} (h : ∀ x, k x → k' x) : pj_gI L i k → pj_gI L i k' := by
  unfold pj_gI
  rcases L[i]? with _ | _ | v
  · exact id
  · exact id
  · cases v <;> first | exact h _ | exact id
theorem pj_gL_m {L : pj_L} {i : Nat} {k k' : Int64 → Prop} (h : ∀ x, k x → k' x) : pj_gL L i k → pj_gL L i k' := by
  unfold pj_gL
  rcases L[i]? with _ | _ | v
  · exact id
  · exact id
  · cases v <;> first | exact h _ | exact id
theorem pj_gR_m {L : pj_L} {i : Nat} {k k' : Nat → Prop} (h : ∀ x, k x → k' x) : pj_gR L i k → pj_gR L i k' := by
  unfold pj_gR
  rcases L[i]? with _ | _ | v
  · exact id
  · exact id
  · cases v <;> first | exact h _ | exact id
theorem pj_sw_m {x : Int32} {d : Nat} {k k' : Nat → Prop} (h : ∀ t, k t → k' t) : ∀ rows : List (Int32 × Nat), pj_sw x rows d k → pj_sw x rows d k'
  | [] => h d
  | r :: rs => fun q => ⟨fun c => h _ (q.1 c), fun c => pj_sw_m h rs (q.2 c)⟩
theorem pj_call_m {C C' : pj_CT} (hC : pj_le C C') {go go' : pj_G} (hg : ∀ pc L st σ bc bs, go pc L st σ bc bs → go' pc L st σ bc bs) {x y z nx : Nat} {inst : Bool} {L : pj_L} {st : List Value} {σ : pj_S} {bc bs mc ms : Nat} :
    pj_call C go x y z nx inst L st σ bc bs mc ms → pj_call C' go' x y z nx inst L st σ bc bs mc ms := by
  refine pj_c_m ?_
  cases inst
  · exact hC _ _ _ _ _ (fun _ _ => hg _ _ _ _ _ _)
  · exact pj_pR_m (fun _ _ => pj_c_m (hC _ _ _ _ _ (fun _ _ => hg _ _ _ _ _ _)))
theorem pj_iv_m {C C' : pj_CT} (hC : pj_le C C') {go go' : pj_G} (hg : ∀ pc L st σ bc bs, go pc L st σ bc bs → go' pc L st σ bc bs) {nx x y z : Nat} {L : pj_L} {st : List Value} {σ : pj_S} {bc bs : Nat} : pj_iv C go nx x y z L st σ bc bs → pj_iv C' go' nx x y z L st σ bc bs := by
  unfold pj_iv
  split
  · exact pj_pI_m fun _ _ => pj_pR_m fun _ _ => pj_c_m fun h => ⟨h.1, hg _ _ _ _ _ _ h.2⟩
  · exact pj_call_m hC hg
theorem pj_ip_m {C C' : pj_CT} (hC : pj_le C C') {al : Nat → Nat × Nat} {go go' : pj_G} (hg : ∀ pc L st σ bc bs, go pc L st σ bc bs → go' pc L st σ bc bs) {nx x y z : Nat} {L : pj_L} {st : List Value} {σ : pj_S} {bc bs : Nat} : pj_ip C al go nx x y z L st σ bc bs → pj_ip C' al go' nx x y z L st σ bc bs := by
  unfold pj_ip
  split
  · exact pj_pR_m fun _ _ => pj_c_m (hg _ _ _ _ _ _)
  · exact pj_call_m hC hg
theorem pj_is_m {C C' : pj_CT} (hC : pj_le C C') {go go' : pj_G} (hg : ∀ pc L st σ bc bs, go pc L st σ bc bs → go' pc L st σ bc bs) {nx x y z : Nat} {L : pj_L} {st : List Value} {σ : pj_S} {bc bs : Nat} : pj_is C go nx x y z L st σ bc bs → pj_is C' go' nx x y z L st σ bc bs := by
  unfold pj_is
  split
  · exact pj_pI_m fun _ _ => pj_pI_m fun _ _ => pj_c_m (hg _ _ _ _ _ _)
  · exact pj_pI_m fun _ _ => pj_pI_m fun _ _ => pj_c_m (hg _ _ _ _ _ _)
  · exact pj_pI_m fun _ _ => pj_c_m (hg _ _ _ _ _ _)
  · exact pj_pI_m fun _ _ => pj_pI_m fun _ _ => pj_pR_m fun _ _ => pj_pI_m fun _ _ => pj_pR_m fun _ _ => pj_c_m fun h => ⟨h.1, hg _ _ _ _ _ _ h.2⟩
  · exact pj_call_m hC hg
set_option maxHeartbeats 4000000 in
theorem pj_x_m {C C' : pj_CT} (hC : pj_le C C') {al : Nat → Nat × Nat} {rt : Bool} {Q Q' : pj_K} (hQ : ∀ r s, Q r s → Q' r s) {go go' : pj_G} (hg : ∀ pc L st σ bc bs, go pc L st σ bc bs → go' pc L st σ bc bs)
    {i : Instr} {nx x y z : Nat} {w : Int32} {v : Int64} {sw : List (Int32 × Nat)} {L : pj_L} {st : List Value} {σ : pj_S} {bc bs : Nat} :
    pj_x C al rt Q go i nx x y z w v sw L st σ bc bs → pj_x C' al rt Q' go' i nx x y z w v sw L st σ bc bs := by
  have g : ∀ {pc L st σ bc bs}, go pc L st σ bc bs → go' pc L st σ bc bs := fun {_ _ _ _ _ _} h => hg _ _ _ _ _ _ h
  cases i
  case ldc k => rcases z with _ | z <;> exact g
  case if_icmp cd k => exact pj_pI_m fun _ _ => pj_pI_m fun _ _ h => by cases cd <;> exact ⟨fun c => g (h.1 c), fun c => g (h.2 c)⟩
  case ifCond cd k => exact pj_pI_m fun _ _ h => by cases cd <;> exact ⟨fun c => g (h.1 c), fun c => g (h.2 c)⟩
  case getfield k => exact pj_pR_m fun _ _ => pj_c_m (by rcases z with _ | _ | _ | z <;> first | exact g | exact pj_c_m g)
  case putfield k =>
    rcases z with _ | _ | _ | z
    · exact pj_pI_m fun _ _ => pj_pR_m fun _ _ => pj_c_m g
    · exact pj_pL_m fun _ _ => pj_pR_m fun _ _ => pj_c_m g
    · exact pj_pR_m fun _ _ => pj_pR_m fun _ _ => pj_c_m g
    · exact pj_pI_m fun _ _ => pj_pR_m fun _ _ => pj_c_m fun h => ⟨h.1, g h.2⟩
  case tableswitch a b c d => exact pj_pI_m fun _ _ => pj_sw_m (fun _ => g) _
  case lookupswitch a b => exact pj_pI_m fun _ _ => pj_sw_m (fun _ => g) _
  case invokevirtual k => exact pj_iv_m hC hg
  case invokespecial k => exact pj_ip_m hC hg
  case invokestatic k => exact pj_is_m hC hg
  case ireturn => exact pj_pI_m fun _ _ => pj_c_m (by cases rt <;> first | exact hQ _ _ | exact fun h => ⟨h.1, hQ _ _ h.2⟩)
  case lreturn => exact pj_pL_m fun _ _ => pj_c_m (hQ _ _)
  case return_ => exact pj_c_m (hQ _ _)
  case dup2 => exact pj_pV_m (st := st) (k := fun a st => pj_pV st fun b st => go nx L (a :: b :: a :: b :: st) σ bc bs) (k' := fun a st => pj_pV st fun b st => go' nx L (a :: b :: a :: b :: st) σ bc bs) fun a r => pj_pV_m (st := r) (k := fun b st => go nx L (a :: b :: a :: b :: st) σ bc bs) (k' := fun b st => go' nx L (a :: b :: a :: b :: st) σ bc bs) fun _ _ => g
  case dup => exact pj_pV_m (st := st) (k := fun a st => go nx L (a :: a :: st) σ bc bs) (k' := fun a st => go' nx L (a :: a :: st) σ bc bs) fun _ _ => g
  case pop => exact pj_pV_m (st := st) (k := fun a st => go nx L st σ bc bs) (k' := fun a st => go' nx L st σ bc bs) fun _ _ => g
  case aaload => exact pj_pI_m fun _ _ => pj_pR_m fun _ _ => pj_c_m fun h => ⟨h.1, pj_c_m g h.2⟩
  case arraylength => exact pj_pR_m fun _ _ => pj_c_m g
  case newarray k => exact pj_pI_m fun _ _ => pj_c_m g
  case anewarray k => exact pj_pI_m fun _ _ => pj_c_m g
  case multianewarray k j => exact pj_pI_m fun _ _ => pj_pI_m fun _ _ => pj_c_m g
  case new k => exact pj_c_m g
  all_goals first
    | exact g
    | exact pj_gR_m fun _ => g
    | exact pj_gI_m fun _ => g
    | exact pj_gL_m fun _ => g
    | exact pj_pR_m fun _ _ => pj_c_m g
    | exact pj_pI_m fun _ _ => pj_c_m g
    | exact pj_pL_m fun _ _ => pj_c_m g
    | exact pj_pI_m fun _ _ => pj_pI_m fun _ _ => g
    | exact pj_pL_m fun _ _ => pj_pL_m fun _ _ => g
    | exact pj_pI_m fun _ _ => pj_pL_m fun _ _ => g
    | exact pj_pI_m fun _ _ => pj_pI_m fun _ _ h => ⟨h.1, g h.2⟩
    | exact pj_pL_m fun _ _ => pj_pL_m fun _ _ h => ⟨h.1, g h.2⟩
    | exact pj_pI_m fun _ _ => g
    | exact pj_pL_m fun _ _ => g
    | exact pj_pV_m fun _ _ => g
    | exact pj_pI_m fun _ _ => pj_pR_m fun _ _ => pj_c_m fun h => ⟨h.1, g h.2⟩
    | exact pj_pI_m fun _ _ => pj_pI_m fun _ _ => pj_pR_m fun _ _ => pj_c_m fun h => ⟨h.1, g h.2⟩
    | exact pj_pL_m fun _ _ => pj_pI_m fun _ _ => pj_pR_m fun _ _ => pj_c_m fun h => ⟨h.1, g h.2⟩
    | exact pj_pR_m fun _ _ => pj_pI_m fun _ _ => pj_pR_m fun _ _ => pj_c_m fun h => ⟨h.1, g h.2⟩
    | exact id
section PJ
variable {C C' : pj_CT} {al : Nat → Nat × Nat} {M : pj_M} {rt : Bool} {Q Q' : pj_K} {pc : Nat} {L : pj_L} {st : List Value} {σ : pj_S} {bc bs : Nat}
theorem pj_1_m (hC : pj_le C C') (hQ : ∀ r s, Q r s → Q' r s) {go go' : pj_G} (hg : ∀ pc L st σ bc bs, go pc L st σ bc bs → go' pc L st σ bc bs) :
    pj_1 C al M rt Q go pc L st σ bc bs → pj_1 C' al M rt Q' go' pc L st σ bc bs := by
  unfold pj_1
  cases M.lookup pc with
  | none => exact id
  | some e => exact pj_x_m hC hQ hg
/-- one instruction on -/
theorem pj_R_in (hC : pj_le C C) (h : pj_1 C al M rt Q (pj_R C al M rt Q) pc L st σ bc bs) : pj_R C al M rt Q pc L st σ bc bs := fun P hP =>
  hP _ _ _ _ _ _ (pj_1_m hC (fun _ _ q => q) (fun _ _ _ _ _ _ q => q P hP) h)
theorem pj_R_m (hC : pj_le C C') (hC' : pj_le C' C') (hQ : ∀ r s, Q r s → Q' r s) (h : pj_R C al M rt Q pc L st σ bc bs) : pj_R C' al M rt Q' pc L st σ bc bs :=
  h (pj_R C' al M rt Q') (fun _ _ _ _ _ _ q => pj_R_in hC' (pj_1_m hC hQ (fun _ _ _ _ _ _ q => q) q))
theorem pj_v_R (hC : pj_le C C) {cut : Nat → Bool} : ∀ (n pc : Nat) (L : pj_L) (st : List Value) (σ : pj_S) (bc bs : Nat), pj_v C al M rt Q cut n pc L st σ bc bs → pj_R C al M rt Q pc L st σ bc bs
  | 0, _, _, _, _, _, _ => fun h => h.elim
  | n + 1, pc, L, st, σ, bc, bs => by
    unfold pj_v
    cases cut pc with
    | true => exact id
    | false => exact fun h => pj_R_in hC (pj_1_m hC (fun _ _ q => q) (pj_v_R hC n) h)
/-- from a place on, up to the cuts -/
theorem pj_go (hC : pj_le C C) (cut : Nat → Bool) (n : Nat) (h : pj_1 C al M rt Q (pj_v C al M rt Q cut n) pc L st σ bc bs) : pj_R C al M rt Q pc L st σ bc bs :=
  pj_R_in hC (pj_1_m hC (fun _ _ q => q) (pj_v_R hC n) h)
end PJ
theorem pj_C_le (T : Nat → Option pj_T) (al : Nat → Nat × Nat) : ∀ d, pj_le (pj_C T al d) (pj_C T al d) ∧ pj_le (pj_C T al d) (pj_C T al (d + 1))
  | 0 => ⟨fun _ _ _ _ _ _ h => h.elim, fun _ _ _ _ _ _ h => h.elim⟩
  | d + 1 => by
    obtain ⟨h1, h2⟩ := pj_C_le T al d
    have key : ∀ {d d' : Nat}, pj_le (pj_C T al d) (pj_C T al d') → pj_le (pj_C T al d') (pj_C T al d') → pj_le (pj_C T al (d + 1)) (pj_C T al (d' + 1)) := by
      intro d d' a b mi args σ K K' hK
      unfold pj_C
      cases T mi with
      | none => exact id
      | some t => exact pj_R_m a b hK
    have k1 := key h1 h1
    refine ⟨k1, ?_⟩
    exact key h2 (fun mi args σ K K' hK => k1 mi args σ K K' hK)
