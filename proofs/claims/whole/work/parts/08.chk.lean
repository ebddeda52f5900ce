/-! the tables hold: field entries, calls, constants, classes, by their places in tables_1 -/
/-- words that a call hands on -/
def pj_isN : Cond → Bool
  | .fieldLinkNest _ _ _ _ _ _ => true
  | .methodLinkNest _ _ _ _ => true
  | .stringRef _ _ _ => true
  | .arrayOver _ => true
  | _ => false
def pj_gw (w : Cond) : Bool := goodWord w || pj_isN w
def pj_tbl : List Cond := lw_tbl.filter pj_gw
theorem pj_tm {w : Cond} (h : w ∈ tables_1) (hg : pj_gw w = true) : w ∈ pj_tbl := List.mem_filter.mpr ⟨List.mem_append_right _ h, hg⟩
theorem pj_tb {k : Nat} {w : Cond} (h : tables_1[k]? = some w) (hg : pj_gw w = true := by rfl) : w ∈ pj_tbl := pj_tm (List.mem_of_getElem? h) hg
def pj_okF (e : Nat × Nat × Nat × Nat × Nat × Nat × Bool) : Bool := match pj_cl[e.2.2.1]? with
  | none => false
  | some r => decide (e.2.2.2.1 < r.2.2) && decide ((r.2.1 e.2.2.2.1).1 = r.1) && decide (pj_ft e.2.2.1 e.2.2.2.1 = e.2.2.2.2.1) &&
    (match e.2.2.2.2.2.2 with
      | false => decide (tables_1[e.2.2.2.2.2.1]? = some (Cond.fieldLink (cn e.1) e.2.1 r.1 (r.2.1 e.2.2.2.1).2.1 (r.2.1 e.2.2.2.1).2.2.1))
      | true => decide (tables_1[e.2.2.2.2.2.1]? = some (Cond.fieldLinkNest (cn e.1) e.2.1 r.1 (r.2.1 e.2.2.2.1).2.1 (r.2.1 e.2.2.2.1).2.2.1 "PegCoats")))
set_option maxRecDepth 100000 in
theorem cpF_0_ok : cpF_0.all pj_okF = true := by decide +kernel
set_option maxRecDepth 100000 in
theorem cpF_1_ok : cpF_1.all pj_okF = true := by decide +kernel
set_option maxRecDepth 100000 in
theorem cpF_2_ok : cpF_2.all pj_okF = true := by decide +kernel
set_option maxRecDepth 100000 in
theorem cpF_3_ok : cpF_3.all pj_okF = true := by decide +kernel
set_option maxRecDepth 100000 in
theorem cpF_4_ok : cpF_4.all pj_okF = true := by decide +kernel
theorem cpF_ok : cpF.all pj_okF = true := by
  unfold cpF
  rw [List.all_append, List.all_append, List.all_append, List.all_append, cpF_0_ok, cpF_1_ok, cpF_2_ok, cpF_3_ok, cpF_4_ok]
  rfl
theorem pj_sp {f : Nat × List (Nat × pj_E) → Bool} (M : pj_M) (k : Nat) (h1 : (M.take k).all f = true) (h2 : (M.drop k).all f = true) : M.all f = true := by
  rw [← List.take_append_drop k M, List.all_append, h1, h2]
  rfl
def pj_oD (b : ByteArray) (c : Nat × List (Nat × pj_E)) : Bool := c.2.all fun q => decide (decode b q.1 = .ok (q.2.1, q.2.2.1))
def pj_okC (ci : Nat) : Bool := match pj_cl[ci]? with
  | none => false
  | some r => (u_ws r.1 r.2.1 r.2.2).all (fun w => decide (w ∈ tables_1) && pj_gw w) && (List.range r.2.2).all (fun k => decide (parseFieldDescriptor (r.2.1 k).2.2.1 = some (pj_ty ci k))) && (List.range r.2.2).all (fun a => (List.range r.2.2).all (fun b => decide (a = b) || decide ((r.2.1 a).2.1 ≠ (r.2.1 b).2.1))) && Nat.beq (pj_nf ci) r.2.2 && decide (Cond.instantiable r.1 r.2.2 ∈ tables_1) && decide (Cond.initialized r.1 ∈ tables_1) && decide (r.1 = cn ci)
set_option maxRecDepth 100000 in
theorem pj_okC_all : (List.range 13).all pj_okC = true := by decide +kernel
