/-! constructors: calls -/
section PCb
variable {C : pj_CT} {al : Nat → Nat × Nat} {M : pj_M} {rt : Bool} {Q : pj_K} {pc : Nat} {L : pj_L} {st rest tl : List Value} {Z : pj_Z} {I : Nat → Nat → Int32} {J : Nat → Nat → Int64} {bc bs bc' bs' ln nx x y z a : Nat} {w : Int32} {v : Int64} {sw : List (Int32 × Nat)}
theorem pj_Rcl {mc ms : Nat} (hC : pj_le C C) (hc : (Nat.ble y st.length && Nat.ble (((st.drop y).map Value.category).sum) 8 && Nat.ble mc bc && Nat.ble ms bs) = true) (hta : (st.take y).reverse = .ref a :: tl) (hk : Nat.beq (Z.2.1 a) z = true) (hb : bc - mc = bc') (hb2 : bs - ms = bs') (hdr : st.drop y = rest) (h : C x (.ref a :: tl) (Z, I, J) (fun r σ => r = none ∧ pj_R C al M rt Q nx L rest σ.1 σ.2.1 σ.2.2 bc' bs')) : pj_call C (pj_R C al M rt Q) x y z nx true L st Z I J bc bs mc ms := by
  unfold pj_call
  refine pj_cT hc ?_
  rw [hta, hdr, hb, hb2]
  refine pj_cT hk (hC _ _ _ _ _ (fun r σ q => ?_) h)
  obtain ⟨rfl, q⟩ := q
  exact q
theorem pj_Rcs {i : Nat} (hC : pj_le C C) (hrow : pj_at pc M = some (.invokespecial i, ln, nx, (x, y, z), w, v, sw)) (hip : pj_ip C al (pj_R C al M rt Q) nx x y z L st Z I J bc bs = pj_call C (pj_R C al M rt Q) x y z nx true L st Z I J bc bs (al x).1 (al x).2) (hc : (Nat.ble y st.length && Nat.ble (((st.drop y).map Value.category).sum) 8 && Nat.ble (al x).1 bc && Nat.ble (al x).2 bs) = true) (hta : (st.take y).reverse = .ref a :: tl) (hk : Nat.beq (Z.2.1 a) z = true) (hb : bc - (al x).1 = bc') (hb2 : bs - (al x).2 = bs') (hdr : st.drop y = rest) (h : C x (.ref a :: tl) (Z, I, J) (fun r σ => r = none ∧ pj_R C al M rt Q nx L rest σ.1 σ.2.1 σ.2.2 bc' bs')) : pj_R C al M rt Q pc L st Z I J bc bs := by
  refine pj_R_in hC ?_
  unfold pj_1
  rw [hrow]
  show pj_ip C al (pj_R C al M rt Q) nx x y z L st Z I J bc bs
  rw [hip]
  exact pj_Rcl hC hc hta hk hb hb2 hdr h
theorem pj_Rcv {i : Nat} (hC : pj_le C C) (hrow : pj_at pc M = some (.invokevirtual i, ln, nx, (x, y, z), w, v, sw)) (hip : pj_iv C (pj_R C al M rt Q) nx x y z L st Z I J bc bs = pj_call C (pj_R C al M rt Q) x y z nx true L st Z I J bc bs 0 0) (hc : (Nat.ble y st.length && Nat.ble (((st.drop y).map Value.category).sum) 8 && Nat.ble 0 bc && Nat.ble 0 bs) = true) (hta : (st.take y).reverse = .ref a :: tl) (hk : Nat.beq (Z.2.1 a) z = true) (hdr : st.drop y = rest) (h : C x (.ref a :: tl) (Z, I, J) (fun r σ => r = none ∧ pj_R C al M rt Q nx L rest σ.1 σ.2.1 σ.2.2 bc bs)) : pj_R C al M rt Q pc L st Z I J bc bs := by
  refine pj_R_in hC ?_
  unfold pj_1
  rw [hrow]
  show pj_iv C (pj_R C al M rt Q) nx x y z L st Z I J bc bs
  rw [hip]
  exact pj_Rcl hC hc hta hk rfl rfl hdr h
/-- a reference is read -/
theorem pj_Rgf {i r : Nat} (hC : pj_le C C) (hrow : pj_at pc M = some (.getfield i, ln, nx, (x, y, 2), w, v, sw)) (hk : Nat.beq (Z.2.1 a) x = true) (hr : Z.2.2.2 a y = some r) (h : pj_R C al M rt Q nx L (.ref r :: st) Z I J bc bs) : pj_R C al M rt Q pc L (.ref a :: st) Z I J bc bs := by
  refine pj_R_in hC ?_
  unfold pj_1
  rw [hrow]
  show pj_c (Nat.beq (Z.2.1 a) x) (pj_c (Z.2.2.2 a y).isSome (pj_R C al M rt Q nx L (.ref ((Z.2.2.2 a y).getD 0) :: st) Z I J bc bs))
  rw [hr]
  exact pj_cT hk (pj_cT rfl h)
end PCb
