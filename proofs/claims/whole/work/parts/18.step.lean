/-! one instruction of the pure machine is one of the machine -/
section PT
variable {ω : pj_Wd} {p : Program} {l : Launch} {e : Env} {R : Room} {s : State} {m : MethodId} {args : Array Value} {below : List Frame} {meth : Method} {c : Code} {nL : Nat} {QW : State → Prop} {bytes : ByteArray} {own d : Nat} {pc : Nat} {L : pj_L} {st : List Value} {Z : pj_Z} {I : Nat → Nat → Int32} {J : Nat → Nat → Int64} {bc bs : Nat} {C : pj_CT} {H : Heap} {locs : List Loc} {ls : Array Slot} {cells slots : Nat} {rest : List Value}
theorem pj_ldcS (X : pj_X ω p R s m args c bytes nL 6) (hd : decode bytes pc = .ok (.ldc 38, 2)) (kk : W p l e R s m args below meth c H locs cells slots QW (F0 m (pc + 2) ls (.ref (pj_ad ω 1) :: rest))) : W p l e R s m args below meth c H locs cells slots QW (F0 m pc ls rest) :=
  va_ldcS X.1 X.2.1 X.2.2.2.1 X.2.2.2.2.2.2.2.2.2.2.1 hd kk
theorem pj_obi (X : pj_X ω p R s m args c bytes nL own) {k : Nat} {a : Nat} (hl : Cond.methodLink (cn own) k objectInit ∈ pj_tbl) (hd : decode bytes pc = .ok (.invokespecial k, 3)) (hls : ls.size = nL) (hrest : (rest.map fun v => v.category).sum ≤ 8) (kk : W p l e R s m args below meth c H locs cells slots QW (F0 m (pc + 3) ls rest)) : W p l e R s m args below meth c H locs cells slots QW (F0 m pc ls (.ref a :: rest)) :=
  W.objInit X.1 X.2.1 X.2.2.2.1 (X.2.2.2.2.1 _ hl) (X.2.2.2.2.1 _ (pj_tb1 (k := 27) (by decide +kernel))) (X.2.2.2.2.1 _ (pj_tb1 (k := 28) (by decide +kernel))) (g := F0 m pc ls (.ref a :: rest)) rfl (by rw [X.2.2.1]; exact hls) rfl hd X.2.2.2.2.2.2.2.2.2.1 (by show 2 * 0 + _ + 12 ≤ _; have := X.2.2.2.2.2.2.2.2.1; omega) kk
theorem pj_putR (X : pj_X ω p R s m args c bytes nL own) {ini : Bool} (hini : ini = true → meth.name = "<init>") {k x y : Nat} (hd : decode bytes pc = .ok (.putfield k, 3))
    (hF : (cpF.any fun q => Nat.beq q.1 own && Nat.beq q.2.1 k && Nat.beq q.2.2.1 x && Nat.beq q.2.2.2.1 y && Nat.beq q.2.2.2.2.1 2 && (!pj_fin x y || (ini && Nat.beq own x && !q.2.2.2.2.2.2))) = true)
    {a b : Nat} (ha : Z.2.1 a = x) (g : pj_wd ω s Z I J H locs cells) (hv : narrow (pj_ty x y) (.ref (pj_ad ω b)) = .ref (pj_ad ω b) ∧ fits (pj_ty x y) (.ref (pj_ad ω b)) = true)
    (kk : ∀ H1 locs1, pj_wd ω s (Z.1, Z.2.1, Z.2.2.1, pj_u Z.2.2.2 a y (some b)) I J H1 locs1 cells → W p l e R s m args below meth c H1 locs1 cells slots QW (F0 m (pc + 3) ls rest)) :
    W p l e R s m args below meth c H locs cells slots QW (F0 m pc ls (.ref (pj_ad ω b) :: .ref (pj_ad ω a) :: rest)) := by
  refine pj_put X hini hd hF ha g (v := .ref (pj_ad ω b)) hv (Z' := (Z.1, Z.2.1, Z.2.2.1, pj_u Z.2.2.2 a y (some b))) (I' := I) (J' := J) (fun hft j => ?_) ⟨rfl, rfl, rfl⟩ (fun j hj => pj_we_eq rfl rfl (pj_u_fun _ _ _ _ hj) rfl rfl) rfl kk
  by_cases hj : j = y
  · subst hj
    rw [if_pos rfl]
    unfold pj_fv
    rw [hft]
    show va_rf (Option.map (pj_ad ω) (pj_u Z.2.2.2 a j (some b) a j)) = _
    rw [pj_u_same]
    rfl
  · rw [if_neg hj]
    unfold pj_fv
    show (match pj_ft x j with | 0 => _ | 1 => _ | 2 => va_rf (Option.map (pj_ad ω) (pj_u Z.2.2.2 a y (some b) a j)) | _ => _) = _
    rw [pj_u_col _ _ _ _ _ hj]
    rfl
end PT
