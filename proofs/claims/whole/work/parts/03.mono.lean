/-! the pure machine asks no more of more -/
def pj_le (C C' : pj_CT) : Prop := ∀ (mi : Nat) (args : List Value) (σ : pj_S) (K K' : pj_K), (∀ r s, K r s → K' r s) → C mi args σ K → C' mi args σ K'
theorem pj_c_m {b : Bool} {K K' : Prop} (h : K → K') : pj_c b K → pj_c b K' := by cases b <;> exact fun q => by first | exact h q | exact q
theorem pj_pI_m {st : List Value} {k k' : Int32 → List Value → Prop} (h : ∀ x r, k x r → k' x r) : pj_pI st k → pj_pI st k' := by
  rcases st with _ | ⟨v, r⟩
  · exact id
  · cases v <;> first | exact h _ _ | exact id
theorem pj_pL_m {st : List Value} {k k' : Int64 → List Value → Prop} (h : ∀ x r, k x r → k' x r) : pj_pL st k → pj_pL st k' := by
  rcases st with _ | ⟨v, r⟩
  · exact id
  · cases v <;> first | exact h _ _ | exact id
theorem pj_pR_m {st : List Value} {k k' : Nat → List Value → Prop} (h : ∀ x r, k x r → k' x r) : pj_pR st k → pj_pR st k' := by
  rcases st with _ | ⟨v, r⟩
  · exact id
  · cases v <;> first | exact h _ _ | exact id
theorem pj_pV_m {st : List Value} {k k' : Value → List Value → Prop} (h : ∀ x r, k x r → k' x r) : pj_pV st k → pj_pV st k' := by
  rcases st with _ | ⟨v, r⟩
  · exact id
  · cases v <;> first | exact h _ _ | exact id
/-- locals of which less is known -/
def pj_ll : pj_L → pj_L → Prop
  | [], [] => True
  | none :: a, _ :: b => pj_ll a b
  | some v :: a, w :: b => w = some v ∧ pj_ll a b
  | _, _ => False
theorem pj_ll_rf : ∀ L : pj_L, pj_ll L L
  | [] => trivial
  | none :: a => pj_ll_rf a
  | some v :: a => ⟨rfl, pj_ll_rf a⟩
theorem pj_ll_len : ∀ {L L' : pj_L}, pj_ll L L' → L.length = L'.length
  | [], [], _ => rfl
  | none :: a, _ :: b, h => by rw [List.length_cons, List.length_cons, pj_ll_len (L := a) (L' := b) h]
  | some v :: a, w :: b, h => by rw [List.length_cons, List.length_cons, pj_ll_len (L := a) (L' := b) h.2]
  | [], _ :: _, h => h.elim
  | none :: _, [], h => h.elim
  | some _ :: _, [], h => h.elim
theorem pj_ll_get : ∀ {L L' : pj_L} (_ : pj_ll L L') (i : Nat) {v : Value}, L[i]? = some (some v) → L'[i]? = some (some v)
  | [], _, _, i, v, e => by simp at e
  | none :: a, [], h, _, _, _ => h.elim
  | some _ :: a, [], h, _, _, _ => h.elim
  | none :: a, w :: b, h, 0, v, e => by simp at e
  | none :: a, w :: b, h, i + 1, v, e => by
    rw [List.getElem?_cons_succ] at e ⊢
    exact pj_ll_get (L := a) (L' := b) h i e
  | some u :: a, w :: b, h, 0, v, e => by
    rw [List.getElem?_cons_zero] at e ⊢
    rw [h.1]; exact e
  | some u :: a, w :: b, h, i + 1, v, e => by
    rw [List.getElem?_cons_succ] at e ⊢
    exact pj_ll_get (L := a) (L' := b) h.2 i e
theorem pj_ll_of : ∀ {L L' : pj_L}, L.length = L'.length → (∀ (i : Nat) (v : Value), L[i]? = some (some v) → L'[i]? = some (some v)) → pj_ll L L'
  | [], [], _, _ => trivial
  | [], _ :: _, e, _ => by simp at e
  | _ :: _, [], e, _ => by simp at e
  | none :: a, w :: b, e, h => pj_ll_of (L := a) (L' := b) (by simpa using e) (fun i v q => by have := h (i + 1) v (by rw [List.getElem?_cons_succ]; exact q); rwa [List.getElem?_cons_succ] at this)
  | some u :: a, w :: b, e, h => ⟨by have := h 0 u (by rw [List.getElem?_cons_zero]); rw [List.getElem?_cons_zero] at this; exact Option.some.inj this, pj_ll_of (L := a) (L' := b) (by simpa using e) (fun i v q => by have := h (i + 1) v (by rw [List.getElem?_cons_succ]; exact q); rwa [List.getElem?_cons_succ] at this)⟩
theorem pj_ll_set {L L' : pj_L} (h : pj_ll L L') (i : Nat) (o : Option Value) : pj_ll (L.set i o) (L'.set i o) := by
  refine pj_ll_of (by rw [List.length_set, List.length_set]; exact pj_ll_len h) (fun j v e => ?_)
  rw [List.getElem?_set] at e ⊢
  by_cases hij : i = j
  · subst hij
    rw [if_pos rfl] at e ⊢
    rw [← pj_ll_len h]
    exact e
  · rw [if_neg hij] at e ⊢
    exact pj_ll_get h j e
theorem pj_ll_set0 {L L' : pj_L} (h : pj_ll L L') (i : Nat) (hi : ∀ v, L[i]? = some (some v) → False) : pj_ll L (L'.set i none) := by
  refine pj_ll_of (by rw [List.length_set]; exact pj_ll_len h) (fun j v e => ?_)
  rw [List.getElem?_set]
  by_cases hij : i = j
  · subst hij
    exact (hi v e).elim
  · rw [if_neg hij]
    exact pj_ll_get h j e
theorem pj_ll_kill {L L' : pj_L} (h : pj_ll L L') (i : Nat) : pj_ll (pj_kill L i) (pj_kill L' i) := by
  cases i with
  | zero => exact h
  | succ j =>
    show pj_ll (pj_k1 L[j]? L j) (pj_k1 L'[j]? L' j)
    cases hL : L[j]? with
    | none =>
      have h1 : L'[j]? = none := by
        rw [List.getElem?_eq_none_iff] at hL ⊢
        rw [← pj_ll_len h]; exact hL
      rw [h1]; exact h
    | some o =>
      cases o with
      | some v =>
        rw [pj_ll_get h j hL]
        cases v <;> first | exact h | exact pj_ll_set h j none
      | none =>
        have hn : ∀ v, L[j]? = some (some v) → False := fun v e => by rw [hL] at e; cases e
        rcases L'[j]? with _ | _ | v
        · exact h
        · exact h
        · cases v <;> first | exact h | exact pj_ll_set0 h j hn
theorem pj_ll_s1 {L L' : pj_L} (h : pj_ll L L') (i : Nat) (v : Value) : pj_ll (pj_s1 L i v) (pj_s1 L' i v) := pj_ll_set (pj_ll_kill h i) i _
theorem pj_ll_s2 {L L' : pj_L} (h : pj_ll L L') (i : Nat) (v : Value) : pj_ll (pj_s2 L i v) (pj_s2 L' i v) := pj_ll_set (pj_ll_set (pj_ll_kill h i) i _) (i + 1) none
theorem pj_gI_m {L L' : pj_L} (hL : pj_ll L L') {i : Nat} {k k' : Int32 → Prop} (h : ∀ x, k x → k' x) : pj_gI L i k → pj_gI L' i k' := by
  unfold pj_gI
  cases e : L[i]? with
  | none => exact fun q => q.elim
  | some o =>
    cases o with
    | none => exact fun q => q.elim
    | some v =>
      rw [pj_ll_get hL i e]
      cases v <;> first | exact h _ | exact id
theorem pj_gL_m {L L' : pj_L} (hL : pj_ll L L') {i : Nat} {k k' : Int64 → Prop} (h : ∀ x, k x → k' x) : pj_gL L i k → pj_gL L' i k' := by
  unfold pj_gL
  cases e : L[i]? with
  | none => exact fun q => q.elim
  | some o =>
    cases o with
    | none => exact fun q => q.elim
    | some v =>
      rw [pj_ll_get hL i e]
      cases v <;> first | exact h _ | exact id
theorem pj_gR_m {L L' : pj_L} (hL : pj_ll L L') {i : Nat} {k k' : Nat → Prop} (h : ∀ x, k x → k' x) : pj_gR L i k → pj_gR L' i k' := by
  unfold pj_gR
  cases e : L[i]? with
  | none => exact fun q => q.elim
  | some o =>
    cases o with
    | none => exact fun q => q.elim
    | some v =>
      rw [pj_ll_get hL i e]
      cases v <;> first | exact h _ | exact id
theorem pj_sw_m {x : Int32} {d : Nat} {k k' : Nat → Prop} (h : ∀ t, k t → k' t) : ∀ rows : List (Int32 × Nat), pj_sw x rows d k → pj_sw x rows d k'
  | [] => h d
  | r :: rs => fun q => ⟨fun c => h _ (q.1 c), fun c => pj_sw_m h rs (q.2 c)⟩
theorem pj_call_m {C C' : pj_CT} (hC : pj_le C C') {go go' : pj_G} (hg : ∀ pc L L' st Z I J bc bs, pj_ll L L' → go pc L st Z I J bc bs → go' pc L' st Z I J bc bs) {x y z nx : Nat} {inst : Bool} {L L' : pj_L} (hL : pj_ll L L') {st : List Value} {Z : pj_Z} {I : Nat → Nat → Int32} {J : Nat → Nat → Int64} {bc bs mc ms : Nat} :
    pj_call C go x y z nx inst L st Z I J bc bs mc ms → pj_call C' go' x y z nx inst L' st Z I J bc bs mc ms := by
  refine pj_c_m ?_
  cases inst
  · exact hC _ _ _ _ _ (fun _ _ => hg _ _ _ _ _ _ _ _ _ hL)
  · exact pj_pR_m (fun _ _ => pj_c_m (hC _ _ _ _ _ (fun _ _ => hg _ _ _ _ _ _ _ _ _ hL)))
theorem pj_iv_m {C C' : pj_CT} (hC : pj_le C C') {go go' : pj_G} (hg : ∀ pc L L' st Z I J bc bs, pj_ll L L' → go pc L st Z I J bc bs → go' pc L' st Z I J bc bs) {nx x y z : Nat} {L L' : pj_L} (hL : pj_ll L L') {st : List Value} {Z : pj_Z} {I : Nat → Nat → Int32} {J : Nat → Nat → Int64} {bc bs : Nat} : pj_iv C go nx x y z L st Z I J bc bs → pj_iv C' go' nx x y z L' st Z I J bc bs := by
  unfold pj_iv
  split
  · exact pj_pI_m fun _ _ => pj_pR_m fun _ _ => pj_c_m fun h => ⟨h.1, hg _ _ _ _ _ _ _ _ _ hL h.2⟩
  · exact pj_call_m hC hg hL
theorem pj_ip_m {C C' : pj_CT} (hC : pj_le C C') {al : Nat → Nat × Nat} {go go' : pj_G} (hg : ∀ pc L L' st Z I J bc bs, pj_ll L L' → go pc L st Z I J bc bs → go' pc L' st Z I J bc bs) {nx x y z : Nat} {L L' : pj_L} (hL : pj_ll L L') {st : List Value} {Z : pj_Z} {I : Nat → Nat → Int32} {J : Nat → Nat → Int64} {bc bs : Nat} : pj_ip C al go nx x y z L st Z I J bc bs → pj_ip C' al go' nx x y z L' st Z I J bc bs := by
  unfold pj_ip
  split
  · exact pj_pR_m fun _ _ => pj_c_m (hg _ _ _ _ _ _ _ _ _ hL)
  · exact pj_call_m hC hg hL
theorem pj_is_m {C C' : pj_CT} (hC : pj_le C C') {go go' : pj_G} (hg : ∀ pc L L' st Z I J bc bs, pj_ll L L' → go pc L st Z I J bc bs → go' pc L' st Z I J bc bs) {nx x y z : Nat} {L L' : pj_L} (hL : pj_ll L L') {st : List Value} {Z : pj_Z} {I : Nat → Nat → Int32} {J : Nat → Nat → Int64} {bc bs : Nat} : pj_is C go nx x y z L st Z I J bc bs → pj_is C' go' nx x y z L' st Z I J bc bs := by
  unfold pj_is
  split
  · exact pj_pI_m fun _ _ => pj_pI_m fun _ _ => pj_c_m (hg _ _ _ _ _ _ _ _ _ hL)
  · exact pj_pI_m fun _ _ => pj_pI_m fun _ _ => pj_c_m (hg _ _ _ _ _ _ _ _ _ hL)
  · exact pj_pI_m fun _ _ => pj_c_m (hg _ _ _ _ _ _ _ _ _ hL)
  · exact pj_pI_m fun _ _ => pj_pI_m fun _ _ => pj_pR_m fun _ _ => pj_pI_m fun _ _ => pj_pR_m fun _ _ => pj_c_m fun h => ⟨h.1, hg _ _ _ _ _ _ _ _ _ hL h.2⟩
  · exact pj_call_m hC hg hL
set_option maxHeartbeats 4000000 in
theorem pj_x_m {C C' : pj_CT} (hC : pj_le C C') {al : Nat → Nat × Nat} {rt : Bool} {Q Q' : pj_K} (hQ : ∀ r s, Q r s → Q' r s) {go go' : pj_G} (hg : ∀ pc L L' st Z I J bc bs, pj_ll L L' → go pc L st Z I J bc bs → go' pc L' st Z I J bc bs)
    {i : Instr} {nx x y z : Nat} {w : Int32} {v : Int64} {sw : List (Int32 × Nat)} {L L' : pj_L} (hL : pj_ll L L') {st : List Value} {Z : pj_Z} {I : Nat → Nat → Int32} {J : Nat → Nat → Int64} {bc bs : Nat} :
    pj_x C al rt Q go i nx x y z w v sw L st Z I J bc bs → pj_x C' al rt Q' go' i nx x y z w v sw L' st Z I J bc bs := by
  have g : ∀ {pc st Z I J bc bs}, go pc L st Z I J bc bs → go' pc L' st Z I J bc bs := fun {_ _ _ _ _ _ _} h => hg _ _ _ _ _ _ _ _ _ hL h
  cases i
  case astore k => exact pj_pR_m fun _ _ => by rw [pj_ll_len hL]; exact pj_c_m (hg _ _ _ _ _ _ _ _ _ (pj_ll_s1 hL _ _))
  case astore_n k => exact pj_pR_m fun _ _ => by rw [pj_ll_len hL]; exact pj_c_m (hg _ _ _ _ _ _ _ _ _ (pj_ll_s1 hL _ _))
  case istore k => exact pj_pI_m fun _ _ => by rw [pj_ll_len hL]; exact pj_c_m (hg _ _ _ _ _ _ _ _ _ (pj_ll_s1 hL _ _))
  case istore_n k => exact pj_pI_m fun _ _ => by rw [pj_ll_len hL]; exact pj_c_m (hg _ _ _ _ _ _ _ _ _ (pj_ll_s1 hL _ _))
  case lstore k => exact pj_pL_m fun _ _ => by rw [pj_ll_len hL]; exact pj_c_m (hg _ _ _ _ _ _ _ _ _ (pj_ll_s2 hL _ _))
  case lstore_n k => exact pj_pL_m fun _ _ => by rw [pj_ll_len hL]; exact pj_c_m (hg _ _ _ _ _ _ _ _ _ (pj_ll_s2 hL _ _))
  case iinc k c => exact pj_gI_m hL fun _ => hg _ _ _ _ _ _ _ _ _ (pj_ll_s1 hL _ _)
  case ldc k => rcases z with _ | z <;> exact g
  case if_icmp cd k => exact pj_pI_m fun _ _ => pj_pI_m fun _ _ h => by cases cd <;> exact ⟨fun c => g (h.1 c), fun c => g (h.2 c)⟩
  case ifCond cd k => exact pj_pI_m fun _ _ h => by cases cd <;> exact ⟨fun c => g (h.1 c), fun c => g (h.2 c)⟩
  case getfield k => exact pj_pR_m fun _ _ => pj_c_m (by rcases z with _ | _ | _ | z <;> first | exact g | exact pj_c_m g)
  case putfield k =>
    rcases z with _ | _ | _ | z
    · exact pj_pI_m fun _ _ => pj_pR_m fun _ _ => pj_c_m g
    · exact pj_pL_m fun _ _ => pj_pR_m fun _ _ => pj_c_m g
    · exact pj_pR_m fun _ _ => pj_pR_m fun _ _ => pj_c_m g
    · exact pj_pI_m fun _ _ => pj_pR_m fun _ _ => pj_c_m fun h => ⟨h.1, g h.2⟩
  case tableswitch a b c d => exact pj_pI_m fun _ _ => pj_sw_m (fun _ => g) _
  case lookupswitch a b => exact pj_pI_m fun _ _ => pj_sw_m (fun _ => g) _
  case invokevirtual k => exact pj_iv_m hC hg hL
  case invokespecial k => exact pj_ip_m hC hg hL
  case invokestatic k => exact pj_is_m hC hg hL
  case ireturn => exact pj_pI_m fun _ _ => pj_c_m (by cases rt <;> first | exact hQ _ _ | exact fun h => ⟨h.1, hQ _ _ h.2⟩)
  case lreturn => exact pj_pL_m fun _ _ => pj_c_m (hQ _ _)
  case return_ => exact pj_c_m (hQ _ _)
  case dup2 => exact pj_pV_m (st := st) (k := fun a st => pj_pV st fun b st => go nx L (a :: b :: a :: b :: st) Z I J bc bs) (k' := fun a st => pj_pV st fun b st => go' nx L' (a :: b :: a :: b :: st) Z I J bc bs) fun a r => pj_pV_m (st := r) (k := fun b st => go nx L (a :: b :: a :: b :: st) Z I J bc bs) (k' := fun b st => go' nx L' (a :: b :: a :: b :: st) Z I J bc bs) fun _ _ => g
  case dup => exact pj_pV_m (st := st) (k := fun a st => go nx L (a :: a :: st) Z I J bc bs) (k' := fun a st => go' nx L' (a :: a :: st) Z I J bc bs) fun _ _ => g
  case pop => exact pj_pV_m (st := st) (k := fun a st => go nx L st Z I J bc bs) (k' := fun a st => go' nx L' st Z I J bc bs) fun _ _ => g
  case aaload => exact pj_pI_m fun _ _ => pj_pR_m fun _ _ => pj_c_m fun h => ⟨h.1, pj_c_m g h.2⟩
  case arraylength => exact pj_pR_m fun _ _ => pj_c_m g
  case newarray k => exact pj_pI_m fun _ _ => pj_c_m g
  case anewarray k => exact pj_pI_m fun _ _ => pj_c_m g
  case multianewarray k j => exact pj_pI_m fun _ _ => pj_pI_m fun _ _ => pj_c_m g
  case new k => exact pj_c_m g
  all_goals first
    | exact g
    | exact pj_gR_m hL fun _ => g
    | exact pj_gI_m hL fun _ => g
    | exact pj_gL_m hL fun _ => g
    | exact pj_pR_m fun _ _ => pj_c_m g
    | exact pj_pI_m fun _ _ => pj_c_m g
    | exact pj_pL_m fun _ _ => pj_c_m g
    | exact pj_pI_m fun _ _ => pj_pI_m fun _ _ => g
    | exact pj_pL_m fun _ _ => pj_pL_m fun _ _ => g
    | exact pj_pI_m fun _ _ => pj_pL_m fun _ _ => g
    | exact pj_pI_m fun _ _ => pj_pI_m fun _ _ h => ⟨h.1, g h.2⟩
    | exact pj_pL_m fun _ _ => pj_pL_m fun _ _ h => ⟨h.1, g h.2⟩
    | exact pj_pI_m fun _ _ => g
    | exact pj_pL_m fun _ _ => g
    | exact pj_pV_m fun _ _ => g
    | exact pj_pI_m fun _ _ => pj_pR_m fun _ _ => pj_c_m fun h => ⟨h.1, g h.2⟩
    | exact pj_pI_m fun _ _ => pj_pI_m fun _ _ => pj_pR_m fun _ _ => pj_c_m fun h => ⟨h.1, g h.2⟩
    | exact pj_pL_m fun _ _ => pj_pI_m fun _ _ => pj_pR_m fun _ _ => pj_c_m fun h => ⟨h.1, g h.2⟩
    | exact pj_pR_m fun _ _ => pj_pI_m fun _ _ => pj_pR_m fun _ _ => pj_c_m fun h => ⟨h.1, g h.2⟩
    | exact id
section PJ
variable {C C' : pj_CT} {al : Nat → Nat × Nat} {M : pj_M} {rt : Bool} {Q Q' : pj_K} {pc : Nat} {L : pj_L} {st : List Value} {Z : pj_Z} {I : Nat → Nat → Int32} {J : Nat → Nat → Int64} {bc bs : Nat}
theorem pj_1_f (hC : pj_le C C') (hQ : ∀ r s, Q r s → Q' r s) {go go' : pj_G} (hg : ∀ pc L L' st Z I J bc bs, pj_ll L L' → go pc L st Z I J bc bs → go' pc L' st Z I J bc bs) {L' : pj_L} (hL : pj_ll L L') :
    pj_1 C al M rt Q go pc L st Z I J bc bs → pj_1 C' al M rt Q' go' pc L' st Z I J bc bs := by
  unfold pj_1
  cases pj_at pc M with
  | none => exact id
  | some e => exact pj_x_m hC hQ hg hL
theorem pj_ll_eq : ∀ {L L' : pj_L}, pj_ll L L' → True := fun _ => trivial
/-- less known of the locals is harder -/
theorem pj_1_m (hC : pj_le C C') (hQ : ∀ r s, Q r s → Q' r s) {go go' : pj_G} (hg : ∀ pc L L' st Z I J bc bs, pj_ll L L' → go pc L st Z I J bc bs → go' pc L' st Z I J bc bs) :
    pj_1 C al M rt Q go pc L st Z I J bc bs → pj_1 C' al M rt Q' go' pc L st Z I J bc bs := pj_1_f hC hQ hg (pj_ll_rf L)
/-- one instruction on; and less known of the locals is harder -/
theorem pj_R_f0 (hC : pj_le C C') (hC' : pj_le C' C') (hQ : ∀ r s, Q r s → Q' r s) (h : pj_R C al M rt Q pc L st Z I J bc bs) : ∀ L', pj_ll L L' → pj_R C' al M rt Q' pc L' st Z I J bc bs := by
  refine h (fun pc L st Z I J bc bs => ∀ L', pj_ll L L' → pj_R C' al M rt Q' pc L' st Z I J bc bs) (fun pc L st Z I J bc bs q L' hL P hP => ?_)
  exact hP _ _ _ _ _ _ _ _ (pj_1_f hC hQ (fun _ _ L2 _ _ _ _ _ _ h2 q2 => q2 L2 h2 P hP) hL q)
theorem pj_R_m (hC : pj_le C C') (hC' : pj_le C' C') (hQ : ∀ r s, Q r s → Q' r s) (h : pj_R C al M rt Q pc L st Z I J bc bs) : pj_R C' al M rt Q' pc L st Z I J bc bs := pj_R_f0 hC hC' hQ h L (pj_ll_rf L)
theorem pj_R_g (hC : pj_le C C) {L' : pj_L} (h : pj_R C al M rt Q pc L st Z I J bc bs) (hL : pj_ll L L') : pj_R C al M rt Q pc L' st Z I J bc bs := pj_R_f0 hC hC (fun _ _ q => q) h L' hL
theorem pj_R_f (hC : pj_le C C) {L' : pj_L} (hL : pj_ll L L') (h : pj_R C al M rt Q pc L st Z I J bc bs) : pj_R C al M rt Q pc L' st Z I J bc bs := pj_R_f0 hC hC (fun _ _ q => q) h L' hL
theorem pj_R_in (hC : pj_le C C) (h : pj_1 C al M rt Q (pj_R C al M rt Q) pc L st Z I J bc bs) : pj_R C al M rt Q pc L st Z I J bc bs := fun P hP =>
  hP _ _ _ _ _ _ _ _ (pj_1_m hC (fun _ _ q => q) (fun _ _ _ _ _ _ _ _ _ h2 q => pj_R_f hC h2 q P hP) h)
theorem pj_v_R (hC : pj_le C C) {cut : Nat → Bool} : ∀ (n pc : Nat) (L L' : pj_L) (st : List Value) (Z : pj_Z) (I : Nat → Nat → Int32) (J : Nat → Nat → Int64) (bc bs : Nat), pj_ll L L' → pj_v C al M rt Q cut n pc L st Z I J bc bs → pj_R C al M rt Q pc L' st Z I J bc bs
  | 0, _, _, _, _, _, _, _, _, _, _ => fun h => h.elim
  | n + 1, pc, L, L', st, Z, I, J, bc, bs, hL => by
    unfold pj_v
    cases cut pc with
    | true => exact pj_R_f hC hL
    | false => exact fun h => pj_R_in hC (pj_1_f hC (fun _ _ q => q) (pj_v_R hC n) hL h)
/-- from a place on, up to the cuts -/
theorem pj_go (hC : pj_le C C) (cut : Nat → Bool) (n : Nat) (h : pj_1 C al M rt Q (pj_v C al M rt Q cut n) pc L st Z I J bc bs) : pj_R C al M rt Q pc L st Z I J bc bs :=
  pj_R_in hC (pj_1_m hC (fun _ _ q => q) (pj_v_R hC n) h)
end PJ
theorem pj_C_le (T : Nat → Option pj_T) (al : Nat → Nat × Nat) : ∀ d, pj_le (pj_C T al d) (pj_C T al d) ∧ pj_le (pj_C T al d) (pj_C T al (d + 1))
  | 0 => ⟨fun _ _ _ _ _ _ h => h.elim, fun _ _ _ _ _ _ h => h.elim⟩
  | d + 1 => by
    obtain ⟨h1, h2⟩ := pj_C_le T al d
    have key : ∀ {d d' : Nat}, pj_le (pj_C T al d) (pj_C T al d') → pj_le (pj_C T al d') (pj_C T al d') → pj_le (pj_C T al (d + 1)) (pj_C T al (d' + 1)) := by
      intro d d' a b mi args σ K K' hK
      unfold pj_C
      cases T mi with
      | none => exact id
      | some t => exact pj_c_m (pj_R_m a b hK)
    have k1 := key h1 h1
    refine ⟨k1, ?_⟩
    exact key h2 (fun mi args σ K K' hK => k1 mi args σ K K' hK)
