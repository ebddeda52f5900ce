/-! methods: number of parameters; kind 0 instance, 1 static, 2 constructor; their words -/
def mpl : List (Nat × Nat) := [(1, 1), (1, 2), (2, 0), (1, 0), (1, 0), (2, 0), (4, 0), (1, 0), (0, 2), (0, 0), (1, 0), (1, 0), (1, 2), (1, 0), (2, 0), (3, 0), (0, 0), (1, 0), (2, 0), (1, 2), (3, 0), (4, 0), (4, 0), (2, 0), (3, 0), (6, 0), (1, 0), (3, 0), (1, 2), (1, 0), (1, 0), (2, 0), (1, 1), (4, 1), (4, 0), (2, 2), (0, 0), (0, 0), (0, 0), (2, 0), (0, 0), (0, 0), (0, 0), (0, 0), (1, 0), (2, 0), (0, 0), (0, 0), (1, 0), (0, 0), (0, 0), (0, 0), (0, 0), (1, 0), (1, 1), (1, 0), (0, 0), (0, 0), (0, 0), (0, 0), (1, 0), (1, 0), (0, 0), (1, 2), (0, 0), (0, 0), (1, 1), (1, 1), (1, 0), (1, 0), (0, 2), (1, 0), (1, 0), (1, 0), (1, 0), (1, 0), (2, 0), (1, 0), (2, 0), (2, 0), (2, 0), (0, 2), (1, 0), (1, 0), (1, 0), (1, 0), (0, 0), (2, 2), (0, 0), (1, 0), (0, 0), (3, 0), (2, 0), (0, 0), (1, 0), (3, 0), (0, 0), (2, 0), (0, 2), (1, 0), (0, 0), (1, 0), (1, 0), (1, 0), (1, 0), (5, 0), (1, 0), (3, 1), (3, 0), (2, 0), (0, 2), (5, 0), (1, 0), (1, 0), (1, 0), (0, 0), (1, 0), (1, 0), (0, 0), (3, 0), (1, 0), (2, 1), (1, 0), (2, 0), (2, 0), (2, 0), (2, 0), (3, 0), (1, 0), (2, 0), (1, 0), (1, 0), (1, 0), (1, 0), (2, 0), (3, 0), (3, 0), (2, 0), (2, 0), (0, 0), (1, 0), (2, 0), (1, 0), (0, 0), (1, 0), (0, 0), (1, 0), (2, 0), (2, 0), (1, 0), (1, 0), (0, 0), (1, 0), (2, 0), (0, 0), (1, 0), (0, 0), (1, 0), (0, 2), (5, 0), (1, 0), (1, 0), (1, 0), (0, 0), (0, 0), (1, 1), (1, 1), (0, 0), (0, 0), (2, 0), (1, 0), (0, 0), (1, 0), (0, 0), (1, 0), (1, 0), (1, 0), (1, 0), (2, 0), (3, 1), (0, 0), (0, 0), (0, 0), (1, 0), (1, 0), (1, 0), (1, 0), (0, 0), (1, 1), (1, 0), (1, 0), (1, 0), (2, 0), (0, 0), (1, 0), (1, 1), (0, 0), (1, 0), (1, 0), (0, 0), (1, 0), (1, 0), (0, 0), (1, 0), (2, 0), (1, 0), (2, 0), (2, 1), (2, 0), (2, 0), (3, 0), (1, 0), (1, 0), (2, 0), (2, 0), (2, 0), (3, 0), (4, 0), (1, 0), (1, 0), (3, 1), (1, 1), (2, 1), (2, 0), (3, 0), (1, 0), (2, 0), (2, 0), (2, 0), (3, 0), (3, 0), (3, 0), (2, 0), (1, 0), (1, 0), (1, 0), (2, 1), (3, 0), (1, 0), (3, 0), (2, 0), (3, 0), (2, 0), (2, 0), (0, 0), (1, 0), (1, 0), (2, 0), (3, 0), (1, 0), (0, 0), (1, 0), (1, 0), (0, 0), (2, 0), (2, 0), (1, 0), (1, 0), (2, 0), (0, 0), (1, 0), (1, 0), (0, 0), (1, 0), (2, 0)]
def mp (k : Nat) : Nat × Nat := mpl.getD k (0, 9)
theorem pj_tb1 {k : Nat} {w : Cond} (h : tables_1_1[k]? = some w) (hg : pj_gw w = true := by rfl) : w ∈ pj_tbl := pj_tm (by
  have h := List.mem_of_getElem? h
  unfold tables_1
  simp only [List.mem_append]
  simp [h]) hg
theorem pj_tb2 {k : Nat} {w : Cond} (h : tables_1_2[k]? = some w) (hg : pj_gw w = true := by rfl) : w ∈ pj_tbl := pj_tm (by
  have h := List.mem_of_getElem? h
  unfold tables_1
  simp only [List.mem_append]
  simp [h]) hg
theorem pj_tb3 {k : Nat} {w : Cond} (h : tables_1_3[k]? = some w) (hg : pj_gw w = true := by rfl) : w ∈ pj_tbl := pj_tm (by
  have h := List.mem_of_getElem? h
  unfold tables_1
  simp only [List.mem_append]
  simp [h]) hg
theorem pj_tb4 {k : Nat} {w : Cond} (h : tables_1_4[k]? = some w) (hg : pj_gw w = true := by rfl) : w ∈ pj_tbl := pj_tm (by
  have h := List.mem_of_getElem? h
  unfold tables_1
  simp only [List.mem_append]
  simp [h]) hg
theorem pj_tb5 {k : Nat} {w : Cond} (h : tables_1_5[k]? = some w) (hg : pj_gw w = true := by rfl) : w ∈ pj_tbl := pj_tm (by
  have h := List.mem_of_getElem? h
  unfold tables_1
  simp only [List.mem_append]
  simp [h]) hg
theorem pj_tb6 {k : Nat} {w : Cond} (h : tables_1_6[k]? = some w) (hg : pj_gw w = true := by rfl) : w ∈ pj_tbl := pj_tm (by
  have h := List.mem_of_getElem? h
  unfold tables_1
  simp only [List.mem_append]
  simp [h]) hg
theorem pj_tb7 {k : Nat} {w : Cond} (h : tables_1_7[k]? = some w) (hg : pj_gw w = true := by rfl) : w ∈ pj_tbl := pj_tm (by
  have h := List.mem_of_getElem? h
  unfold tables_1
  simp only [List.mem_append]
  simp [h]) hg
theorem pj_tb8 {k : Nat} {w : Cond} (h : tables_1_8[k]? = some w) (hg : pj_gw w = true := by rfl) : w ∈ pj_tbl := pj_tm (by
  have h := List.mem_of_getElem? h
  unfold tables_1
  simp only [List.mem_append]
  simp [h]) hg
theorem pj_tk {k : Nat} {w : Cond} (h : (k2_sels lw_privs)[k]? = some w) (hg : pj_gw w = true := by rfl) : w ∈ pj_tbl := List.mem_filter.mpr ⟨List.mem_append_left _ (List.mem_of_getElem? h), hg⟩
/-- a method's words -/
def pj_okP (k : Nat) (t : pj_T) : Prop := plainName t.1.1.cls = true ∧ t.1.1.cls = cn t.2.1.1 ∧ Cond.code t.1.1 t.1.2.1 t.1.2.2.1 t.1.2.2.2 ∈ pj_tbl ∧ Cond.initialized t.1.1.cls ∈ pj_tbl ∧ t.1.1.cls ≠ "java/lang/invoke/MethodHandle" ∧ t.1.1.cls ≠ "java/lang/invoke/VarHandle" ∧
  (parseMethodDescriptor t.1.1.desc).map (fun d => d.parameters.length) = some (mp k).1 ∧ t.1.2.2.1 ≤ 40 ∧ t.2.1.2 = decide (t.1.2.2.2 = some .boolean) ∧ (t.1.2.2.2 = none ∨ t.1.2.2.2 = some .int ∨ t.1.2.2.2 = some .long ∨ t.1.2.2.2 = some .boolean) ∧
  (((mp k).2 = 0 ∧ Cond.instanceMethod t.1.1 ∈ pj_tbl ∧ Cond.selects t.1.1.cls t.1.1 t.1.1 ∈ pj_tbl ∧ t.1.1.name ≠ "<init>") ∨ ((mp k).2 = 1 ∧ Cond.static t.1.1 ∈ pj_tbl ∧ t.1.1.name ≠ "<init>") ∨ ((mp k).2 = 2 ∧ Cond.instanceMethod t.1.1 ∈ pj_tbl ∧ t.1.1.name = "<init>" ∧ t.1.2.2.2 = none))
theorem mo_1 : pj_okP 1 mt_1 := ⟨by decide, rfl, (pj_tb2 (k := 12) (by rfl)), (pj_tb1 (k := 10) (by decide +kernel)), by decide, by decide, by decide +kernel, by decide, rfl, ⟨Or.inl rfl, Or.inr (Or.inr ⟨rfl, (pj_tb2 (k := 11) (by decide +kernel)), by decide, rfl⟩)⟩⟩
theorem mo_2 : pj_okP 2 mt_2 := ⟨by decide, rfl, (pj_tb4 (k := 123) (by rfl)), (pj_tb1 (k := 10) (by decide +kernel)), by decide, by decide, by decide +kernel, by decide, rfl, ⟨Or.inl rfl, Or.inl ⟨rfl, (pj_tb4 (k := 121) (by decide +kernel)), (pj_tb4 (k := 122) (by decide +kernel)), by decide⟩⟩⟩
theorem mo_3 : pj_okP 3 mt_3 := ⟨by decide, rfl, (pj_tb4 (k := 127) (by rfl)), (pj_tb1 (k := 10) (by decide +kernel)), by decide, by decide, by decide +kernel, by decide, rfl, ⟨Or.inl rfl, Or.inl ⟨rfl, (pj_tb4 (k := 126) (by decide +kernel)), (pj_tk (k := 33) (by decide +kernel)), by decide⟩⟩⟩
theorem mo_4 : pj_okP 4 mt_4 := ⟨by decide, rfl, (pj_tb4 (k := 140) (by rfl)), (pj_tb1 (k := 10) (by decide +kernel)), by decide, by decide, by decide +kernel, by decide, rfl, ⟨Or.inl rfl, Or.inl ⟨rfl, (pj_tb4 (k := 139) (by decide +kernel)), (pj_tk (k := 34) (by decide +kernel)), by decide⟩⟩⟩
theorem mo_5 : pj_okP 5 mt_5 := ⟨by decide, rfl, (pj_tb4 (k := 148) (by rfl)), (pj_tb1 (k := 10) (by decide +kernel)), by decide, by decide, by decide +kernel, by decide, rfl, ⟨Or.inl rfl, Or.inl ⟨rfl, (pj_tb4 (k := 147) (by decide +kernel)), (pj_tk (k := 35) (by decide +kernel)), by decide⟩⟩⟩
theorem mo_6 : pj_okP 6 mt_6 := ⟨by decide, rfl, (pj_tb4 (k := 153) (by rfl)), (pj_tb1 (k := 10) (by decide +kernel)), by decide, by decide, by decide +kernel, by decide, rfl, ⟨Or.inr (Or.inl rfl), Or.inl ⟨rfl, (pj_tb4 (k := 151) (by decide +kernel)), (pj_tb4 (k := 152) (by decide +kernel)), by decide⟩⟩⟩
theorem mo_7 : pj_okP 7 mt_7 := ⟨by decide, rfl, (pj_tb4 (k := 162) (by rfl)), (pj_tb1 (k := 10) (by decide +kernel)), by decide, by decide, by decide +kernel, by decide, rfl, ⟨Or.inl rfl, Or.inl ⟨rfl, (pj_tb4 (k := 161) (by decide +kernel)), (pj_tk (k := 36) (by decide +kernel)), by decide⟩⟩⟩
theorem mo_8 : pj_okP 8 mt_8 := ⟨by decide, rfl, (pj_tb2 (k := 109) (by rfl)), (pj_tb1 (k := 12) (by decide +kernel)), by decide, by decide, by decide +kernel, by decide, rfl, ⟨Or.inl rfl, Or.inr (Or.inr ⟨rfl, (pj_tb2 (k := 108) (by decide +kernel)), by decide, rfl⟩)⟩⟩
theorem mo_9 : pj_okP 9 mt_9 := ⟨by decide, rfl, (pj_tb4 (k := 9) (by rfl)), (pj_tb1 (k := 12) (by decide +kernel)), by decide, by decide, by decide +kernel, by decide, rfl, ⟨Or.inl rfl, Or.inl ⟨rfl, (pj_tb4 (k := 7) (by decide +kernel)), (pj_tb4 (k := 8) (by decide +kernel)), by decide⟩⟩⟩
theorem mo_10 : pj_okP 10 mt_10 := ⟨by decide, rfl, (pj_tb5 (k := 96) (by rfl)), (pj_tb1 (k := 12) (by decide +kernel)), by decide, by decide, by decide +kernel, by decide, rfl, ⟨Or.inl rfl, Or.inl ⟨rfl, (pj_tb5 (k := 94) (by decide +kernel)), (pj_tb5 (k := 95) (by decide +kernel)), by decide⟩⟩⟩
theorem mo_11 : pj_okP 11 mt_11 := ⟨by decide, rfl, (pj_tb5 (k := 148) (by rfl)), (pj_tb1 (k := 12) (by decide +kernel)), by decide, by decide, by decide +kernel, by decide, rfl, ⟨Or.inr (Or.inr (Or.inr rfl)), Or.inl ⟨rfl, (pj_tb5 (k := 146) (by decide +kernel)), (pj_tb5 (k := 147) (by decide +kernel)), by decide⟩⟩⟩
theorem mo_12 : pj_okP 12 mt_12 := ⟨by decide, rfl, (pj_tb2 (k := 129) (by rfl)), (pj_tb1 (k := 13) (by decide +kernel)), by decide, by decide, by decide +kernel, by decide, rfl, ⟨Or.inl rfl, Or.inr (Or.inr ⟨rfl, (pj_tb2 (k := 128) (by decide +kernel)), by decide, rfl⟩)⟩⟩
theorem mo_13 : pj_okP 13 mt_13 := ⟨by decide, rfl, (pj_tb4 (k := 182) (by rfl)), (pj_tb1 (k := 13) (by decide +kernel)), by decide, by decide, by decide +kernel, by decide, rfl, ⟨Or.inl rfl, Or.inl ⟨rfl, (pj_tb4 (k := 180) (by decide +kernel)), (pj_tb4 (k := 181) (by decide +kernel)), by decide⟩⟩⟩
theorem mo_14 : pj_okP 14 mt_14 := ⟨by decide, rfl, (pj_tb4 (k := 189) (by rfl)), (pj_tb1 (k := 13) (by decide +kernel)), by decide, by decide, by decide +kernel, by decide, rfl, ⟨Or.inr (Or.inl rfl), Or.inl ⟨rfl, (pj_tb4 (k := 188) (by decide +kernel)), (pj_tk (k := 38) (by decide +kernel)), by decide⟩⟩⟩
theorem mo_15 : pj_okP 15 mt_15 := ⟨by decide, rfl, (pj_tb4 (k := 193) (by rfl)), (pj_tb1 (k := 13) (by decide +kernel)), by decide, by decide, by decide +kernel, by decide, rfl, ⟨Or.inr (Or.inr (Or.inr rfl)), Or.inl ⟨rfl, (pj_tb4 (k := 192) (by decide +kernel)), (pj_tk (k := 39) (by decide +kernel)), by decide⟩⟩⟩
theorem mo_16 : pj_okP 16 mt_16 := ⟨by decide, rfl, (pj_tb4 (k := 197) (by rfl)), (pj_tb1 (k := 13) (by decide +kernel)), by decide, by decide, by decide +kernel, by decide, rfl, ⟨Or.inr (Or.inl rfl), Or.inl ⟨rfl, (pj_tb4 (k := 195) (by decide +kernel)), (pj_tb4 (k := 196) (by decide +kernel)), by decide⟩⟩⟩
theorem mo_17 : pj_okP 17 mt_17 := ⟨by decide, rfl, (pj_tb4 (k := 201) (by rfl)), (pj_tb1 (k := 13) (by decide +kernel)), by decide, by decide, by decide +kernel, by decide, rfl, ⟨Or.inr (Or.inl rfl), Or.inl ⟨rfl, (pj_tb4 (k := 199) (by decide +kernel)), (pj_tb4 (k := 200) (by decide +kernel)), by decide⟩⟩⟩
theorem mo_18 : pj_okP 18 mt_18 := ⟨by decide, rfl, (pj_tb4 (k := 205) (by rfl)), (pj_tb1 (k := 13) (by decide +kernel)), by decide, by decide, by decide +kernel, by decide, rfl, ⟨Or.inr (Or.inl rfl), Or.inl ⟨rfl, (pj_tb4 (k := 204) (by decide +kernel)), (pj_tk (k := 40) (by decide +kernel)), by decide⟩⟩⟩
theorem mo_19 : pj_okP 19 mt_19 := ⟨by decide, rfl, (pj_tb2 (k := 147) (by rfl)), (pj_tb1 (k := 14) (by decide +kernel)), by decide, by decide, by decide +kernel, by decide, rfl, ⟨Or.inl rfl, Or.inr (Or.inr ⟨rfl, (pj_tb2 (k := 146) (by decide +kernel)), by decide, rfl⟩)⟩⟩
theorem mo_20 : pj_okP 20 mt_20 := ⟨by decide, rfl, (pj_tb4 (k := 226) (by rfl)), (pj_tb1 (k := 14) (by decide +kernel)), by decide, by decide, by decide +kernel, by decide, rfl, ⟨Or.inr (Or.inl rfl), Or.inl ⟨rfl, (pj_tb4 (k := 224) (by decide +kernel)), (pj_tb4 (k := 225) (by decide +kernel)), by decide⟩⟩⟩
theorem mo_21 : pj_okP 21 mt_21 := ⟨by decide, rfl, (pj_tb4 (k := 234) (by rfl)), (pj_tb1 (k := 14) (by decide +kernel)), by decide, by decide, by decide +kernel, by decide, rfl, ⟨Or.inr (Or.inr (Or.inr rfl)), Or.inl ⟨rfl, (pj_tb4 (k := 233) (by decide +kernel)), (pj_tk (k := 43) (by decide +kernel)), by decide⟩⟩⟩
theorem mo_22 : pj_okP 22 mt_22 := ⟨by decide, rfl, (pj_tb4 (k := 238) (by rfl)), (pj_tb1 (k := 14) (by decide +kernel)), by decide, by decide, by decide +kernel, by decide, rfl, ⟨Or.inr (Or.inr (Or.inr rfl)), Or.inl ⟨rfl, (pj_tb4 (k := 237) (by decide +kernel)), (pj_tk (k := 44) (by decide +kernel)), by decide⟩⟩⟩
theorem mo_23 : pj_okP 23 mt_23 := ⟨by decide, rfl, (pj_tb5 (k := 2) (by rfl)), (pj_tb1 (k := 14) (by decide +kernel)), by decide, by decide, by decide +kernel, by decide, rfl, ⟨Or.inr (Or.inr (Or.inr rfl)), Or.inl ⟨rfl, (pj_tb5 (k := 1) (by decide +kernel)), (pj_tk (k := 45) (by decide +kernel)), by decide⟩⟩⟩
theorem mo_24 : pj_okP 24 mt_24 := ⟨by decide, rfl, (pj_tb5 (k := 6) (by rfl)), (pj_tb1 (k := 14) (by decide +kernel)), by decide, by decide, by decide +kernel, by decide, rfl, ⟨Or.inr (Or.inl rfl), Or.inl ⟨rfl, (pj_tb5 (k := 5) (by decide +kernel)), (pj_tk (k := 46) (by decide +kernel)), by decide⟩⟩⟩
theorem mo_25 : pj_okP 25 mt_25 := ⟨by decide, rfl, (pj_tb5 (k := 12) (by rfl)), (pj_tb1 (k := 14) (by decide +kernel)), by decide, by decide, by decide +kernel, by decide, rfl, ⟨Or.inr (Or.inr (Or.inr rfl)), Or.inl ⟨rfl, (pj_tb5 (k := 11) (by decide +kernel)), (pj_tk (k := 47) (by decide +kernel)), by decide⟩⟩⟩
theorem mo_26 : pj_okP 26 mt_26 := ⟨by decide, rfl, (pj_tb5 (k := 16) (by rfl)), (pj_tb1 (k := 14) (by decide +kernel)), by decide, by decide, by decide +kernel, by decide, rfl, ⟨Or.inr (Or.inl rfl), Or.inl ⟨rfl, (pj_tb5 (k := 15) (by decide +kernel)), (pj_tk (k := 48) (by decide +kernel)), by decide⟩⟩⟩
theorem mo_27 : pj_okP 27 mt_27 := ⟨by decide, rfl, (pj_tb5 (k := 25) (by rfl)), (pj_tb1 (k := 14) (by decide +kernel)), by decide, by decide, by decide +kernel, by decide, rfl, ⟨Or.inl rfl, Or.inl ⟨rfl, (pj_tb5 (k := 24) (by decide +kernel)), (pj_tk (k := 49) (by decide +kernel)), by decide⟩⟩⟩
theorem mo_28 : pj_okP 28 mt_28 := ⟨by decide, rfl, (pj_tb2 (k := 223) (by rfl)), (pj_tb1 (k := 16) (by decide +kernel)), by decide, by decide, by decide +kernel, by decide, rfl, ⟨Or.inl rfl, Or.inr (Or.inr ⟨rfl, (pj_tb2 (k := 222) (by decide +kernel)), by decide, rfl⟩)⟩⟩
theorem mo_29 : pj_okP 29 mt_29 := ⟨by decide, rfl, (pj_tb5 (k := 164) (by rfl)), (pj_tb1 (k := 16) (by decide +kernel)), by decide, by decide, by decide +kernel, by decide, rfl, ⟨Or.inl rfl, Or.inl ⟨rfl, (pj_tb5 (k := 162) (by decide +kernel)), (pj_tb5 (k := 163) (by decide +kernel)), by decide⟩⟩⟩
theorem mo_30 : pj_okP 30 mt_30 := ⟨by decide, rfl, (pj_tb5 (k := 168) (by rfl)), (pj_tb1 (k := 16) (by decide +kernel)), by decide, by decide, by decide +kernel, by decide, rfl, ⟨Or.inl rfl, Or.inl ⟨rfl, (pj_tb5 (k := 167) (by decide +kernel)), (pj_tk (k := 59) (by decide +kernel)), by decide⟩⟩⟩
theorem mo_31 : pj_okP 31 mt_31 := ⟨by decide, rfl, (pj_tb5 (k := 180) (by rfl)), (pj_tb1 (k := 16) (by decide +kernel)), by decide, by decide, by decide +kernel, by decide, rfl, ⟨Or.inr (Or.inr (Or.inr rfl)), Or.inl ⟨rfl, (pj_tb5 (k := 178) (by decide +kernel)), (pj_tb5 (k := 179) (by decide +kernel)), by decide⟩⟩⟩
theorem mo_32 : pj_okP 32 mt_32 := ⟨by decide, rfl, (pj_tb5 (k := 183) (by rfl)), (pj_tb1 (k := 16) (by decide +kernel)), by decide, by decide, by decide +kernel, by decide, rfl, ⟨Or.inr (Or.inr (Or.inr rfl)), Or.inr (Or.inl ⟨rfl, (pj_tb5 (k := 182) (by decide +kernel)), by decide⟩)⟩⟩
theorem mo_33 : pj_okP 33 mt_33 := ⟨by decide, rfl, (pj_tb5 (k := 187) (by rfl)), (pj_tb1 (k := 16) (by decide +kernel)), by decide, by decide, by decide +kernel, by decide, rfl, ⟨Or.inr (Or.inr (Or.inr rfl)), Or.inr (Or.inl ⟨rfl, (pj_tb5 (k := 186) (by decide +kernel)), by decide⟩)⟩⟩
theorem mo_34 : pj_okP 34 mt_34 := ⟨by decide, rfl, (pj_tb5 (k := 191) (by rfl)), (pj_tb1 (k := 16) (by decide +kernel)), by decide, by decide, by decide +kernel, by decide, rfl, ⟨Or.inr (Or.inr (Or.inr rfl)), Or.inl ⟨rfl, (pj_tb5 (k := 190) (by decide +kernel)), (pj_tk (k := 60) (by decide +kernel)), by decide⟩⟩⟩
theorem mo_35 : pj_okP 35 mt_35 := ⟨by decide, rfl, (pj_tb1 (k := 147) (by rfl)), (pj_tb1 (k := 4) (by decide +kernel)), by decide, by decide, by decide +kernel, by decide, rfl, ⟨Or.inl rfl, Or.inr (Or.inr ⟨rfl, (pj_tb1 (k := 146) (by decide +kernel)), by decide, rfl⟩)⟩⟩
theorem mo_36 : pj_okP 36 mt_36 := ⟨by decide, rfl, (pj_tb3 (k := 89) (by rfl)), (pj_tb1 (k := 4) (by decide +kernel)), by decide, by decide, by decide +kernel, by decide, rfl, ⟨Or.inl rfl, Or.inl ⟨rfl, (pj_tb3 (k := 87) (by decide +kernel)), (pj_tb3 (k := 88) (by decide +kernel)), by decide⟩⟩⟩
theorem mo_37 : pj_okP 37 mt_37 := ⟨by decide, rfl, (pj_tb3 (k := 119) (by rfl)), (pj_tb1 (k := 4) (by decide +kernel)), by decide, by decide, by decide +kernel, by decide, rfl, ⟨Or.inr (Or.inr (Or.inr rfl)), Or.inl ⟨rfl, (pj_tb3 (k := 117) (by decide +kernel)), (pj_tb3 (k := 118) (by decide +kernel)), by decide⟩⟩⟩
theorem mo_38 : pj_okP 38 mt_38 := ⟨by decide, rfl, (pj_tb3 (k := 123) (by rfl)), (pj_tb1 (k := 4) (by decide +kernel)), by decide, by decide, by decide +kernel, by decide, rfl, ⟨Or.inl rfl, Or.inl ⟨rfl, (pj_tb3 (k := 122) (by decide +kernel)), (pj_tk (k := 3) (by decide +kernel)), by decide⟩⟩⟩
theorem mo_39 : pj_okP 39 mt_39 := ⟨by decide, rfl, (pj_tb3 (k := 127) (by rfl)), (pj_tb1 (k := 4) (by decide +kernel)), by decide, by decide, by decide +kernel, by decide, rfl, ⟨Or.inl rfl, Or.inl ⟨rfl, (pj_tb3 (k := 126) (by decide +kernel)), (pj_tk (k := 4) (by decide +kernel)), by decide⟩⟩⟩
theorem mo_40 : pj_okP 40 mt_40 := ⟨by decide, rfl, (pj_tb3 (k := 131) (by rfl)), (pj_tb1 (k := 4) (by decide +kernel)), by decide, by decide, by decide +kernel, by decide, rfl, ⟨Or.inl rfl, Or.inl ⟨rfl, (pj_tb3 (k := 130) (by decide +kernel)), (pj_tk (k := 5) (by decide +kernel)), by decide⟩⟩⟩
theorem mo_41 : pj_okP 41 mt_41 := ⟨by decide, rfl, (pj_tb3 (k := 136) (by rfl)), (pj_tb1 (k := 4) (by decide +kernel)), by decide, by decide, by decide +kernel, by decide, rfl, ⟨Or.inr (Or.inl rfl), Or.inl ⟨rfl, (pj_tb3 (k := 135) (by decide +kernel)), (pj_tk (k := 6) (by decide +kernel)), by decide⟩⟩⟩
theorem mo_42 : pj_okP 42 mt_42 := ⟨by decide, rfl, (pj_tb3 (k := 140) (by rfl)), (pj_tb1 (k := 4) (by decide +kernel)), by decide, by decide, by decide +kernel, by decide, rfl, ⟨Or.inr (Or.inl rfl), Or.inl ⟨rfl, (pj_tb3 (k := 139) (by decide +kernel)), (pj_tk (k := 7) (by decide +kernel)), by decide⟩⟩⟩
theorem mo_43 : pj_okP 43 mt_43 := ⟨by decide, rfl, (pj_tb3 (k := 144) (by rfl)), (pj_tb1 (k := 4) (by decide +kernel)), by decide, by decide, by decide +kernel, by decide, rfl, ⟨Or.inl rfl, Or.inl ⟨rfl, (pj_tb3 (k := 143) (by decide +kernel)), (pj_tk (k := 8) (by decide +kernel)), by decide⟩⟩⟩
theorem mo_44 : pj_okP 44 mt_44 := ⟨by decide, rfl, (pj_tb3 (k := 156) (by rfl)), (pj_tb1 (k := 4) (by decide +kernel)), by decide, by decide, by decide +kernel, by decide, rfl, ⟨Or.inl rfl, Or.inl ⟨rfl, (pj_tb3 (k := 155) (by decide +kernel)), (pj_tk (k := 9) (by decide +kernel)), by decide⟩⟩⟩
theorem mo_45 : pj_okP 45 mt_45 := ⟨by decide, rfl, (pj_tb3 (k := 160) (by rfl)), (pj_tb1 (k := 4) (by decide +kernel)), by decide, by decide, by decide +kernel, by decide, rfl, ⟨Or.inr (Or.inl rfl), Or.inl ⟨rfl, (pj_tb3 (k := 159) (by decide +kernel)), (pj_tk (k := 10) (by decide +kernel)), by decide⟩⟩⟩
theorem mo_46 : pj_okP 46 mt_46 := ⟨by decide, rfl, (pj_tb3 (k := 164) (by rfl)), (pj_tb1 (k := 4) (by decide +kernel)), by decide, by decide, by decide +kernel, by decide, rfl, ⟨Or.inl rfl, Or.inl ⟨rfl, (pj_tb3 (k := 163) (by decide +kernel)), (pj_tk (k := 11) (by decide +kernel)), by decide⟩⟩⟩
theorem mo_47 : pj_okP 47 mt_47 := ⟨by decide, rfl, (pj_tb3 (k := 168) (by rfl)), (pj_tb1 (k := 4) (by decide +kernel)), by decide, by decide, by decide +kernel, by decide, rfl, ⟨Or.inl rfl, Or.inl ⟨rfl, (pj_tb3 (k := 167) (by decide +kernel)), (pj_tk (k := 12) (by decide +kernel)), by decide⟩⟩⟩
theorem mo_48 : pj_okP 48 mt_48 := ⟨by decide, rfl, (pj_tb3 (k := 173) (by rfl)), (pj_tb1 (k := 4) (by decide +kernel)), by decide, by decide, by decide +kernel, by decide, rfl, ⟨Or.inl rfl, Or.inl ⟨rfl, (pj_tb3 (k := 172) (by decide +kernel)), (pj_tk (k := 13) (by decide +kernel)), by decide⟩⟩⟩
theorem mo_49 : pj_okP 49 mt_49 := ⟨by decide, rfl, (pj_tb3 (k := 181) (by rfl)), (pj_tb1 (k := 4) (by decide +kernel)), by decide, by decide, by decide +kernel, by decide, rfl, ⟨Or.inl rfl, Or.inl ⟨rfl, (pj_tb3 (k := 180) (by decide +kernel)), (pj_tk (k := 14) (by decide +kernel)), by decide⟩⟩⟩
theorem mo_50 : pj_okP 50 mt_50 := ⟨by decide, rfl, (pj_tb3 (k := 185) (by rfl)), (pj_tb1 (k := 4) (by decide +kernel)), by decide, by decide, by decide +kernel, by decide, rfl, ⟨Or.inl rfl, Or.inl ⟨rfl, (pj_tb3 (k := 184) (by decide +kernel)), (pj_tk (k := 15) (by decide +kernel)), by decide⟩⟩⟩
theorem mo_51 : pj_okP 51 mt_51 := ⟨by decide, rfl, (pj_tb3 (k := 189) (by rfl)), (pj_tb1 (k := 4) (by decide +kernel)), by decide, by decide, by decide +kernel, by decide, rfl, ⟨Or.inl rfl, Or.inl ⟨rfl, (pj_tb3 (k := 188) (by decide +kernel)), (pj_tk (k := 16) (by decide +kernel)), by decide⟩⟩⟩
theorem mo_52 : pj_okP 52 mt_52 := ⟨by decide, rfl, (pj_tb3 (k := 193) (by rfl)), (pj_tb1 (k := 4) (by decide +kernel)), by decide, by decide, by decide +kernel, by decide, rfl, ⟨Or.inr (Or.inr (Or.inr rfl)), Or.inl ⟨rfl, (pj_tb3 (k := 192) (by decide +kernel)), (pj_tk (k := 17) (by decide +kernel)), by decide⟩⟩⟩
theorem mo_53 : pj_okP 53 mt_53 := ⟨by decide, rfl, (pj_tb3 (k := 197) (by rfl)), (pj_tb1 (k := 4) (by decide +kernel)), by decide, by decide, by decide +kernel, by decide, rfl, ⟨Or.inl rfl, Or.inl ⟨rfl, (pj_tb3 (k := 196) (by decide +kernel)), (pj_tk (k := 18) (by decide +kernel)), by decide⟩⟩⟩
theorem mo_54 : pj_okP 54 mt_54 := ⟨by decide, rfl, (pj_tb4 (k := 32) (by rfl)), (pj_tb1 (k := 19) (by decide +kernel)), by decide, by decide, by decide +kernel, by decide, rfl, ⟨Or.inr (Or.inl rfl), Or.inr (Or.inl ⟨rfl, (pj_tb4 (k := 31) (by decide +kernel)), by decide⟩)⟩⟩
theorem mo_55 : pj_okP 55 mt_55 := ⟨by decide, rfl, (pj_tb3 (k := 205) (by rfl)), (pj_tb1 (k := 4) (by decide +kernel)), by decide, by decide, by decide +kernel, by decide, rfl, ⟨Or.inl rfl, Or.inl ⟨rfl, (pj_tb3 (k := 204) (by decide +kernel)), (pj_tk (k := 19) (by decide +kernel)), by decide⟩⟩⟩
theorem mo_56 : pj_okP 56 mt_56 := ⟨by decide, rfl, (pj_tb3 (k := 209) (by rfl)), (pj_tb1 (k := 4) (by decide +kernel)), by decide, by decide, by decide +kernel, by decide, rfl, ⟨Or.inl rfl, Or.inl ⟨rfl, (pj_tb3 (k := 208) (by decide +kernel)), (pj_tk (k := 20) (by decide +kernel)), by decide⟩⟩⟩
theorem mo_57 : pj_okP 57 mt_57 := ⟨by decide, rfl, (pj_tb3 (k := 213) (by rfl)), (pj_tb1 (k := 4) (by decide +kernel)), by decide, by decide, by decide +kernel, by decide, rfl, ⟨Or.inl rfl, Or.inl ⟨rfl, (pj_tb3 (k := 212) (by decide +kernel)), (pj_tk (k := 21) (by decide +kernel)), by decide⟩⟩⟩
theorem mo_58 : pj_okP 58 mt_58 := ⟨by decide, rfl, (pj_tb3 (k := 217) (by rfl)), (pj_tb1 (k := 4) (by decide +kernel)), by decide, by decide, by decide +kernel, by decide, rfl, ⟨Or.inl rfl, Or.inl ⟨rfl, (pj_tb3 (k := 216) (by decide +kernel)), (pj_tk (k := 22) (by decide +kernel)), by decide⟩⟩⟩
theorem mo_59 : pj_okP 59 mt_59 := ⟨by decide, rfl, (pj_tb3 (k := 221) (by rfl)), (pj_tb1 (k := 4) (by decide +kernel)), by decide, by decide, by decide +kernel, by decide, rfl, ⟨Or.inl rfl, Or.inl ⟨rfl, (pj_tb3 (k := 220) (by decide +kernel)), (pj_tk (k := 23) (by decide +kernel)), by decide⟩⟩⟩
theorem mo_60 : pj_okP 60 mt_60 := ⟨by decide, rfl, (pj_tb3 (k := 225) (by rfl)), (pj_tb1 (k := 4) (by decide +kernel)), by decide, by decide, by decide +kernel, by decide, rfl, ⟨Or.inl rfl, Or.inl ⟨rfl, (pj_tb3 (k := 224) (by decide +kernel)), (pj_tk (k := 24) (by decide +kernel)), by decide⟩⟩⟩
theorem mo_61 : pj_okP 61 mt_61 := ⟨by decide, rfl, (pj_tb3 (k := 229) (by rfl)), (pj_tb1 (k := 4) (by decide +kernel)), by decide, by decide, by decide +kernel, by decide, rfl, ⟨Or.inr (Or.inr (Or.inr rfl)), Or.inl ⟨rfl, (pj_tb3 (k := 228) (by decide +kernel)), (pj_tk (k := 25) (by decide +kernel)), by decide⟩⟩⟩
theorem mo_62 : pj_okP 62 mt_62 := ⟨by decide, rfl, (pj_tb3 (k := 233) (by rfl)), (pj_tb1 (k := 4) (by decide +kernel)), by decide, by decide, by decide +kernel, by decide, rfl, ⟨Or.inr (Or.inr (Or.inr rfl)), Or.inl ⟨rfl, (pj_tb3 (k := 232) (by decide +kernel)), (pj_tk (k := 26) (by decide +kernel)), by decide⟩⟩⟩
theorem mo_63 : pj_okP 63 mt_63 := ⟨by decide, rfl, (pj_tb1 (k := 153) (by rfl)), (pj_tb1 (k := 5) (by decide +kernel)), by decide, by decide, by decide +kernel, by decide, rfl, ⟨Or.inl rfl, Or.inr (Or.inr ⟨rfl, (pj_tb1 (k := 152) (by decide +kernel)), by decide, rfl⟩)⟩⟩
theorem mo_64 : pj_okP 64 mt_64 := ⟨by decide, rfl, (pj_tb3 (k := 97) (by rfl)), (pj_tb1 (k := 5) (by decide +kernel)), by decide, by decide, by decide +kernel, by decide, rfl, ⟨Or.inl rfl, Or.inl ⟨rfl, (pj_tb3 (k := 95) (by decide +kernel)), (pj_tb3 (k := 96) (by decide +kernel)), by decide⟩⟩⟩
theorem mo_65 : pj_okP 65 mt_65 := ⟨by decide, rfl, (pj_tb3 (k := 101) (by rfl)), (pj_tb1 (k := 5) (by decide +kernel)), by decide, by decide, by decide +kernel, by decide, rfl, ⟨Or.inl rfl, Or.inl ⟨rfl, (pj_tb3 (k := 99) (by decide +kernel)), (pj_tb3 (k := 100) (by decide +kernel)), by decide⟩⟩⟩
theorem mo_66 : pj_okP 66 mt_66 := ⟨by decide, rfl, (pj_tb3 (k := 108) (by rfl)), (pj_tb1 (k := 5) (by decide +kernel)), by decide, by decide, by decide +kernel, by decide, rfl, ⟨Or.inr (Or.inr (Or.inr rfl)), Or.inr (Or.inl ⟨rfl, (pj_tb3 (k := 107) (by decide +kernel)), by decide⟩)⟩⟩
theorem mo_67 : pj_okP 67 mt_67 := ⟨by decide, rfl, (pj_tb3 (k := 111) (by rfl)), (pj_tb1 (k := 5) (by decide +kernel)), by decide, by decide, by decide +kernel, by decide, rfl, ⟨Or.inr (Or.inl rfl), Or.inr (Or.inl ⟨rfl, (pj_tb3 (k := 110) (by decide +kernel)), by decide⟩)⟩⟩
theorem mo_68 : pj_okP 68 mt_68 := ⟨by decide, rfl, (pj_tb3 (k := 115) (by rfl)), (pj_tb1 (k := 5) (by decide +kernel)), by decide, by decide, by decide +kernel, by decide, rfl, ⟨Or.inr (Or.inl rfl), Or.inl ⟨rfl, (pj_tb3 (k := 114) (by decide +kernel)), (pj_tk (k := 2) (by decide +kernel)), by decide⟩⟩⟩
theorem mo_69 : pj_okP 69 mt_69 := ⟨by decide, rfl, (pj_tb3 (k := 201) (by rfl)), (pj_tb1 (k := 5) (by decide +kernel)), by decide, by decide, by decide +kernel, by decide, rfl, ⟨Or.inr (Or.inr (Or.inr rfl)), Or.inl ⟨rfl, (pj_tb3 (k := 199) (by decide +kernel)), (pj_tb3 (k := 200) (by decide +kernel)), by decide⟩⟩⟩
theorem mo_70 : pj_okP 70 mt_70 := ⟨by decide, rfl, (pj_tb2 (k := 30) (by rfl)), (pj_tb1 (k := 11) (by decide +kernel)), by decide, by decide, by decide +kernel, by decide, rfl, ⟨Or.inl rfl, Or.inr (Or.inr ⟨rfl, (pj_tb2 (k := 29) (by decide +kernel)), by decide, rfl⟩)⟩⟩
theorem mo_71 : pj_okP 71 mt_71 := ⟨by decide, rfl, (pj_tb3 (k := 0) (by rfl)), (pj_tb1 (k := 11) (by decide +kernel)), by decide, by decide, by decide +kernel, by decide, rfl, ⟨Or.inl rfl, Or.inl ⟨rfl, (pj_tb2 (k := 238) (by decide +kernel)), (pj_tb2 (k := 239) (by decide +kernel)), by decide⟩⟩⟩
theorem mo_72 : pj_okP 72 mt_72 := ⟨by decide, rfl, (pj_tb4 (k := 25) (by rfl)), (pj_tb1 (k := 11) (by decide +kernel)), by decide, by decide, by decide +kernel, by decide, rfl, ⟨Or.inr (Or.inl rfl), Or.inl ⟨rfl, (pj_tb4 (k := 23) (by decide +kernel)), (pj_tb4 (k := 24) (by decide +kernel)), by decide⟩⟩⟩
theorem mo_73 : pj_okP 73 mt_73 := ⟨by decide, rfl, (pj_tb4 (k := 29) (by rfl)), (pj_tb1 (k := 11) (by decide +kernel)), by decide, by decide, by decide +kernel, by decide, rfl, ⟨Or.inr (Or.inl rfl), Or.inl ⟨rfl, (pj_tb4 (k := 27) (by decide +kernel)), (pj_tb4 (k := 28) (by decide +kernel)), by decide⟩⟩⟩
theorem mo_74 : pj_okP 74 mt_74 := ⟨by decide, rfl, (pj_tb4 (k := 39) (by rfl)), (pj_tb1 (k := 11) (by decide +kernel)), by decide, by decide, by decide +kernel, by decide, rfl, ⟨Or.inr (Or.inl rfl), Or.inl ⟨rfl, (pj_tb4 (k := 37) (by decide +kernel)), (pj_tb4 (k := 38) (by decide +kernel)), by decide⟩⟩⟩
theorem mo_75 : pj_okP 75 mt_75 := ⟨by decide, rfl, (pj_tb4 (k := 44) (by rfl)), (pj_tb1 (k := 11) (by decide +kernel)), by decide, by decide, by decide +kernel, by decide, rfl, ⟨Or.inr (Or.inl rfl), Or.inl ⟨rfl, (pj_tb4 (k := 42) (by decide +kernel)), (pj_tb4 (k := 43) (by decide +kernel)), by decide⟩⟩⟩
theorem mo_76 : pj_okP 76 mt_76 := ⟨by decide, rfl, (pj_tb4 (k := 74) (by rfl)), (pj_tb1 (k := 11) (by decide +kernel)), by decide, by decide, by decide +kernel, by decide, rfl, ⟨Or.inr (Or.inl rfl), Or.inl ⟨rfl, (pj_tb4 (k := 72) (by decide +kernel)), (pj_tb4 (k := 73) (by decide +kernel)), by decide⟩⟩⟩
theorem mo_77 : pj_okP 77 mt_77 := ⟨by decide, rfl, (pj_tb4 (k := 118) (by rfl)), (pj_tb1 (k := 11) (by decide +kernel)), by decide, by decide, by decide +kernel, by decide, rfl, ⟨Or.inl rfl, Or.inl ⟨rfl, (pj_tb4 (k := 116) (by decide +kernel)), (pj_tb4 (k := 117) (by decide +kernel)), by decide⟩⟩⟩
theorem mo_78 : pj_okP 78 mt_78 := ⟨by decide, rfl, (pj_tb4 (k := 158) (by rfl)), (pj_tb1 (k := 11) (by decide +kernel)), by decide, by decide, by decide +kernel, by decide, rfl, ⟨Or.inl rfl, Or.inl ⟨rfl, (pj_tb4 (k := 156) (by decide +kernel)), (pj_tb4 (k := 157) (by decide +kernel)), by decide⟩⟩⟩
theorem mo_79 : pj_okP 79 mt_79 := ⟨by decide, rfl, (pj_tb5 (k := 20) (by rfl)), (pj_tb1 (k := 11) (by decide +kernel)), by decide, by decide, by decide +kernel, by decide, rfl, ⟨Or.inl rfl, Or.inl ⟨rfl, (pj_tb5 (k := 18) (by decide +kernel)), (pj_tb5 (k := 19) (by decide +kernel)), by decide⟩⟩⟩
theorem mo_80 : pj_okP 80 mt_80 := ⟨by decide, rfl, (pj_tb5 (k := 121) (by rfl)), (pj_tb1 (k := 11) (by decide +kernel)), by decide, by decide, by decide +kernel, by decide, rfl, ⟨Or.inl rfl, Or.inl ⟨rfl, (pj_tb5 (k := 119) (by decide +kernel)), (pj_tb5 (k := 120) (by decide +kernel)), by decide⟩⟩⟩
theorem mo_81 : pj_okP 81 mt_81 := ⟨by decide, rfl, (pj_tb1 (k := 33) (by rfl)), (pj_tb1 (k := 2) (by decide +kernel)), by decide, by decide, by decide +kernel, by decide, rfl, ⟨Or.inl rfl, Or.inr (Or.inr ⟨rfl, (pj_tb1 (k := 32) (by decide +kernel)), by decide, rfl⟩)⟩⟩
theorem mo_82 : pj_okP 82 mt_82 := ⟨by decide, rfl, (pj_tb3 (k := 61) (by rfl)), (pj_tb1 (k := 2) (by decide +kernel)), by decide, by decide, by decide +kernel, by decide, rfl, ⟨Or.inr (Or.inr (Or.inr rfl)), Or.inl ⟨rfl, (pj_tb3 (k := 59) (by decide +kernel)), (pj_tb3 (k := 60) (by decide +kernel)), by decide⟩⟩⟩
theorem mo_83 : pj_okP 83 mt_83 := ⟨by decide, rfl, (pj_tb3 (k := 69) (by rfl)), (pj_tb1 (k := 2) (by decide +kernel)), by decide, by decide, by decide +kernel, by decide, rfl, ⟨Or.inl rfl, Or.inl ⟨rfl, (pj_tb3 (k := 67) (by decide +kernel)), (pj_tb3 (k := 68) (by decide +kernel)), by decide⟩⟩⟩
theorem mo_84 : pj_okP 84 mt_84 := ⟨by decide, rfl, (pj_tb3 (k := 77) (by rfl)), (pj_tb1 (k := 2) (by decide +kernel)), by decide, by decide, by decide +kernel, by decide, rfl, ⟨Or.inr (Or.inr (Or.inr rfl)), Or.inl ⟨rfl, (pj_tb3 (k := 75) (by decide +kernel)), (pj_tb3 (k := 76) (by decide +kernel)), by decide⟩⟩⟩
theorem mo_85 : pj_okP 85 mt_85 := ⟨by decide, rfl, (pj_tb3 (k := 105) (by rfl)), (pj_tb1 (k := 2) (by decide +kernel)), by decide, by decide, by decide +kernel, by decide, rfl, ⟨Or.inr (Or.inl rfl), Or.inl ⟨rfl, (pj_tb3 (k := 103) (by decide +kernel)), (pj_tb3 (k := 104) (by decide +kernel)), by decide⟩⟩⟩
theorem mo_86 : pj_okP 86 mt_86 := ⟨by decide, rfl, (pj_tb3 (k := 237) (by rfl)), (pj_tb1 (k := 2) (by decide +kernel)), by decide, by decide, by decide +kernel, by decide, rfl, ⟨Or.inl rfl, Or.inl ⟨rfl, (pj_tb3 (k := 235) (by decide +kernel)), (pj_tb3 (k := 236) (by decide +kernel)), by decide⟩⟩⟩
theorem mo_87 : pj_okP 87 mt_87 := ⟨by decide, rfl, (pj_tb2 (k := 172) (by rfl)), (pj_tb1 (k := 15) (by decide +kernel)), by decide, by decide, by decide +kernel, by decide, rfl, ⟨Or.inl rfl, Or.inr (Or.inr ⟨rfl, (pj_tb2 (k := 171) (by decide +kernel)), by decide, rfl⟩)⟩⟩
theorem mo_88 : pj_okP 88 mt_88 := ⟨by decide, rfl, (pj_tb4 (k := 13) (by rfl)), (pj_tb1 (k := 15) (by decide +kernel)), by decide, by decide, by decide +kernel, by decide, rfl, ⟨Or.inl rfl, Or.inl ⟨rfl, (pj_tb4 (k := 11) (by decide +kernel)), (pj_tb4 (k := 12) (by decide +kernel)), by decide⟩⟩⟩
theorem mo_89 : pj_okP 89 mt_89 := ⟨by decide, rfl, (pj_tb5 (k := 42) (by rfl)), (pj_tb1 (k := 15) (by decide +kernel)), by decide, by decide, by decide +kernel, by decide, rfl, ⟨Or.inr (Or.inr (Or.inr rfl)), Or.inl ⟨rfl, (pj_tb5 (k := 40) (by decide +kernel)), (pj_tb5 (k := 41) (by decide +kernel)), by decide⟩⟩⟩
theorem mo_90 : pj_okP 90 mt_90 := ⟨by decide, rfl, (pj_tb5 (k := 51) (by rfl)), (pj_tb1 (k := 15) (by decide +kernel)), by decide, by decide, by decide +kernel, by decide, rfl, ⟨Or.inr (Or.inl rfl), Or.inl ⟨rfl, (pj_tb5 (k := 49) (by decide +kernel)), (pj_tb5 (k := 50) (by decide +kernel)), by decide⟩⟩⟩
theorem mo_91 : pj_okP 91 mt_91 := ⟨by decide, rfl, (pj_tb5 (k := 56) (by rfl)), (pj_tb1 (k := 15) (by decide +kernel)), by decide, by decide, by decide +kernel, by decide, rfl, ⟨Or.inl rfl, Or.inl ⟨rfl, (pj_tb5 (k := 54) (by decide +kernel)), (pj_tb5 (k := 55) (by decide +kernel)), by decide⟩⟩⟩
theorem mo_92 : pj_okP 92 mt_92 := ⟨by decide, rfl, (pj_tb5 (k := 60) (by rfl)), (pj_tb1 (k := 15) (by decide +kernel)), by decide, by decide, by decide +kernel, by decide, rfl, ⟨Or.inr (Or.inl rfl), Or.inl ⟨rfl, (pj_tb5 (k := 59) (by decide +kernel)), (pj_tk (k := 50) (by decide +kernel)), by decide⟩⟩⟩
theorem mo_93 : pj_okP 93 mt_93 := ⟨by decide, rfl, (pj_tb5 (k := 67) (by rfl)), (pj_tb1 (k := 15) (by decide +kernel)), by decide, by decide, by decide +kernel, by decide, rfl, ⟨Or.inr (Or.inl rfl), Or.inl ⟨rfl, (pj_tb5 (k := 66) (by decide +kernel)), (pj_tk (k := 51) (by decide +kernel)), by decide⟩⟩⟩
theorem mo_94 : pj_okP 94 mt_94 := ⟨by decide, rfl, (pj_tb5 (k := 72) (by rfl)), (pj_tb1 (k := 15) (by decide +kernel)), by decide, by decide, by decide +kernel, by decide, rfl, ⟨Or.inr (Or.inr (Or.inr rfl)), Or.inl ⟨rfl, (pj_tb5 (k := 71) (by decide +kernel)), (pj_tk (k := 52) (by decide +kernel)), by decide⟩⟩⟩
theorem mo_95 : pj_okP 95 mt_95 := ⟨by decide, rfl, (pj_tb5 (k := 76) (by rfl)), (pj_tb1 (k := 15) (by decide +kernel)), by decide, by decide, by decide +kernel, by decide, rfl, ⟨Or.inr (Or.inl rfl), Or.inl ⟨rfl, (pj_tb5 (k := 75) (by decide +kernel)), (pj_tk (k := 53) (by decide +kernel)), by decide⟩⟩⟩
theorem mo_96 : pj_okP 96 mt_96 := ⟨by decide, rfl, (pj_tb5 (k := 84) (by rfl)), (pj_tb1 (k := 15) (by decide +kernel)), by decide, by decide, by decide +kernel, by decide, rfl, ⟨Or.inl rfl, Or.inl ⟨rfl, (pj_tb5 (k := 82) (by decide +kernel)), (pj_tb5 (k := 83) (by decide +kernel)), by decide⟩⟩⟩
theorem mo_97 : pj_okP 97 mt_97 := ⟨by decide, rfl, (pj_tb5 (k := 88) (by rfl)), (pj_tb1 (k := 15) (by decide +kernel)), by decide, by decide, by decide +kernel, by decide, rfl, ⟨Or.inr (Or.inl rfl), Or.inl ⟨rfl, (pj_tb5 (k := 87) (by decide +kernel)), (pj_tk (k := 54) (by decide +kernel)), by decide⟩⟩⟩
theorem mo_98 : pj_okP 98 mt_98 := ⟨by decide, rfl, (pj_tb1 (k := 51) (by rfl)), (pj_tb1 (k := 3) (by decide +kernel)), by decide, by decide, by decide +kernel, by decide, rfl, ⟨Or.inl rfl, Or.inr (Or.inr ⟨rfl, (pj_tb1 (k := 50) (by decide +kernel)), by decide, rfl⟩)⟩⟩
theorem mo_99 : pj_okP 99 mt_99 := ⟨by decide, rfl, (pj_tb3 (k := 4) (by rfl)), (pj_tb1 (k := 3) (by decide +kernel)), by decide, by decide, by decide +kernel, by decide, rfl, ⟨Or.inr (Or.inl rfl), Or.inl ⟨rfl, (pj_tb3 (k := 2) (by decide +kernel)), (pj_tb3 (k := 3) (by decide +kernel)), by decide⟩⟩⟩
theorem mo_100 : pj_okP 100 mt_100 := ⟨by decide, rfl, (pj_tb3 (k := 93) (by rfl)), (pj_tb1 (k := 3) (by decide +kernel)), by decide, by decide, by decide +kernel, by decide, rfl, ⟨Or.inl rfl, Or.inl ⟨rfl, (pj_tb3 (k := 91) (by decide +kernel)), (pj_tb3 (k := 92) (by decide +kernel)), by decide⟩⟩⟩
theorem mo_101 : pj_okP 101 mt_101 := ⟨by decide, rfl, (pj_tb3 (k := 148) (by rfl)), (pj_tb1 (k := 3) (by decide +kernel)), by decide, by decide, by decide +kernel, by decide, rfl, ⟨Or.inr (Or.inl rfl), Or.inl ⟨rfl, (pj_tb3 (k := 146) (by decide +kernel)), (pj_tb3 (k := 147) (by decide +kernel)), by decide⟩⟩⟩
theorem mo_102 : pj_okP 102 mt_102 := ⟨by decide, rfl, (pj_tb3 (k := 152) (by rfl)), (pj_tb1 (k := 3) (by decide +kernel)), by decide, by decide, by decide +kernel, by decide, rfl, ⟨Or.inr (Or.inl rfl), Or.inl ⟨rfl, (pj_tb3 (k := 150) (by decide +kernel)), (pj_tb3 (k := 151) (by decide +kernel)), by decide⟩⟩⟩
theorem mo_103 : pj_okP 103 mt_103 := ⟨by decide, rfl, (pj_tb3 (k := 177) (by rfl)), (pj_tb1 (k := 3) (by decide +kernel)), by decide, by decide, by decide +kernel, by decide, rfl, ⟨Or.inr (Or.inr (Or.inr rfl)), Or.inl ⟨rfl, (pj_tb3 (k := 175) (by decide +kernel)), (pj_tb3 (k := 176) (by decide +kernel)), by decide⟩⟩⟩
theorem mo_104 : pj_okP 104 mt_104 := ⟨by decide, rfl, (pj_tb4 (k := 2) (by rfl)), (pj_tb1 (k := 3) (by decide +kernel)), by decide, by decide, by decide +kernel, by decide, rfl, ⟨Or.inl rfl, Or.inl ⟨rfl, (pj_tb4 (k := 0) (by decide +kernel)), (pj_tb4 (k := 1) (by decide +kernel)), by decide⟩⟩⟩
theorem mo_105 : pj_okP 105 mt_105 := ⟨by decide, rfl, (pj_tb4 (k := 87) (by rfl)), (pj_tb1 (k := 3) (by decide +kernel)), by decide, by decide, by decide +kernel, by decide, rfl, ⟨Or.inr (Or.inl rfl), Or.inl ⟨rfl, (pj_tb4 (k := 85) (by decide +kernel)), (pj_tb4 (k := 86) (by decide +kernel)), by decide⟩⟩⟩
theorem mo_106 : pj_okP 106 mt_106 := ⟨by decide, rfl, (pj_tb4 (k := 95) (by rfl)), (pj_tb1 (k := 3) (by decide +kernel)), by decide, by decide, by decide +kernel, by decide, rfl, ⟨Or.inr (Or.inl rfl), Or.inl ⟨rfl, (pj_tb4 (k := 94) (by decide +kernel)), (pj_tk (k := 30) (by decide +kernel)), by decide⟩⟩⟩
theorem mo_107 : pj_okP 107 mt_107 := ⟨by decide, rfl, (pj_tb4 (k := 98) (by rfl)), (pj_tb1 (k := 3) (by decide +kernel)), by decide, by decide, by decide +kernel, by decide, rfl, ⟨Or.inr (Or.inl rfl), Or.inr (Or.inl ⟨rfl, (pj_tb4 (k := 97) (by decide +kernel)), by decide⟩)⟩⟩
theorem mo_108 : pj_okP 108 mt_108 := ⟨by decide, rfl, (pj_tb4 (k := 131) (by rfl)), (pj_tb1 (k := 3) (by decide +kernel)), by decide, by decide, by decide +kernel, by decide, rfl, ⟨Or.inr (Or.inl rfl), Or.inl ⟨rfl, (pj_tb4 (k := 129) (by decide +kernel)), (pj_tb4 (k := 130) (by decide +kernel)), by decide⟩⟩⟩
theorem mo_109 : pj_okP 109 mt_109 := ⟨by decide, rfl, (pj_tb4 (k := 144) (by rfl)), (pj_tb1 (k := 3) (by decide +kernel)), by decide, by decide, by decide +kernel, by decide, rfl, ⟨Or.inr (Or.inr (Or.inr rfl)), Or.inl ⟨rfl, (pj_tb4 (k := 142) (by decide +kernel)), (pj_tb4 (k := 143) (by decide +kernel)), by decide⟩⟩⟩
theorem mo_110 : pj_okP 110 mt_110 := ⟨by decide, rfl, (pj_tb1 (k := 25) (by rfl)), (pj_tb1 (k := 1) (by decide +kernel)), by decide, by decide, by decide +kernel, by decide, rfl, ⟨Or.inl rfl, Or.inr (Or.inr ⟨rfl, (pj_tb1 (k := 24) (by decide +kernel)), by decide, rfl⟩)⟩⟩
theorem mo_111 : pj_okP 111 mt_111 := ⟨by decide, rfl, (pj_tb3 (k := 57) (by rfl)), (pj_tb1 (k := 1) (by decide +kernel)), by decide, by decide, by decide +kernel, by decide, rfl, ⟨Or.inr (Or.inl rfl), Or.inl ⟨rfl, (pj_tb3 (k := 55) (by decide +kernel)), (pj_tb3 (k := 56) (by decide +kernel)), by decide⟩⟩⟩
theorem mo_112 : pj_okP 112 mt_112 := ⟨by decide, rfl, (pj_tb3 (k := 65) (by rfl)), (pj_tb1 (k := 1) (by decide +kernel)), by decide, by decide, by decide +kernel, by decide, rfl, ⟨Or.inr (Or.inl rfl), Or.inl ⟨rfl, (pj_tb3 (k := 64) (by decide +kernel)), (pj_tk (k := 0) (by decide +kernel)), by decide⟩⟩⟩
theorem mo_113 : pj_okP 113 mt_113 := ⟨by decide, rfl, (pj_tb3 (k := 73) (by rfl)), (pj_tb1 (k := 1) (by decide +kernel)), by decide, by decide, by decide +kernel, by decide, rfl, ⟨Or.inr (Or.inr (Or.inr rfl)), Or.inl ⟨rfl, (pj_tb3 (k := 71) (by decide +kernel)), (pj_tb3 (k := 72) (by decide +kernel)), by decide⟩⟩⟩
theorem mo_114 : pj_okP 114 mt_114 := ⟨by decide, rfl, (pj_tb3 (k := 81) (by rfl)), (pj_tb1 (k := 1) (by decide +kernel)), by decide, by decide, by decide +kernel, by decide, rfl, ⟨Or.inr (Or.inr (Or.inr rfl)), Or.inl ⟨rfl, (pj_tb3 (k := 80) (by decide +kernel)), (pj_tk (k := 1) (by decide +kernel)), by decide⟩⟩⟩
theorem mo_115 : pj_okP 115 mt_115 := ⟨by decide, rfl, (pj_tb3 (k := 85) (by rfl)), (pj_tb1 (k := 1) (by decide +kernel)), by decide, by decide, by decide +kernel, by decide, rfl, ⟨Or.inr (Or.inl rfl), Or.inl ⟨rfl, (pj_tb3 (k := 83) (by decide +kernel)), (pj_tb3 (k := 84) (by decide +kernel)), by decide⟩⟩⟩
theorem mo_116 : pj_okP 116 mt_116 := ⟨by decide, rfl, (pj_tb4 (k := 17) (by rfl)), (pj_tb1 (k := 1) (by decide +kernel)), by decide, by decide, by decide +kernel, by decide, rfl, ⟨Or.inr (Or.inl rfl), Or.inl ⟨rfl, (pj_tb4 (k := 15) (by decide +kernel)), (pj_tb4 (k := 16) (by decide +kernel)), by decide⟩⟩⟩
theorem mo_117 : pj_okP 117 mt_117 := ⟨by decide, rfl, (pj_tb4 (k := 21) (by rfl)), (pj_tb1 (k := 1) (by decide +kernel)), by decide, by decide, by decide +kernel, by decide, rfl, ⟨Or.inr (Or.inl rfl), Or.inl ⟨rfl, (pj_tb4 (k := 19) (by decide +kernel)), (pj_tb4 (k := 20) (by decide +kernel)), by decide⟩⟩⟩
theorem mo_118 : pj_okP 118 mt_118 := ⟨by decide, rfl, (pj_tb4 (k := 48) (by rfl)), (pj_tb1 (k := 1) (by decide +kernel)), by decide, by decide, by decide +kernel, by decide, rfl, ⟨Or.inr (Or.inl rfl), Or.inl ⟨rfl, (pj_tb4 (k := 47) (by decide +kernel)), (pj_tk (k := 27) (by decide +kernel)), by decide⟩⟩⟩
theorem mo_119 : pj_okP 119 mt_119 := ⟨by decide, rfl, (pj_tb4 (k := 55) (by rfl)), (pj_tb1 (k := 1) (by decide +kernel)), by decide, by decide, by decide +kernel, by decide, rfl, ⟨Or.inr (Or.inl rfl), Or.inl ⟨rfl, (pj_tb4 (k := 53) (by decide +kernel)), (pj_tb4 (k := 54) (by decide +kernel)), by decide⟩⟩⟩
theorem mo_120 : pj_okP 120 mt_120 := ⟨by decide, rfl, (pj_tb4 (k := 59) (by rfl)), (pj_tb1 (k := 1) (by decide +kernel)), by decide, by decide, by decide +kernel, by decide, rfl, ⟨Or.inr (Or.inr (Or.inr rfl)), Or.inl ⟨rfl, (pj_tb4 (k := 58) (by decide +kernel)), (pj_tk (k := 28) (by decide +kernel)), by decide⟩⟩⟩
theorem mo_121 : pj_okP 121 mt_121 := ⟨by decide, rfl, (pj_tb4 (k := 62) (by rfl)), (pj_tb1 (k := 1) (by decide +kernel)), by decide, by decide, by decide +kernel, by decide, rfl, ⟨Or.inr (Or.inl rfl), Or.inr (Or.inl ⟨rfl, (pj_tb4 (k := 61) (by decide +kernel)), by decide⟩)⟩⟩
theorem mo_122 : pj_okP 122 mt_122 := ⟨by decide, rfl, (pj_tb4 (k := 66) (by rfl)), (pj_tb1 (k := 1) (by decide +kernel)), by decide, by decide, by decide +kernel, by decide, rfl, ⟨Or.inr (Or.inr (Or.inr rfl)), Or.inl ⟨rfl, (pj_tb4 (k := 65) (by decide +kernel)), (pj_tk (k := 29) (by decide +kernel)), by decide⟩⟩⟩
theorem mo_123 : pj_okP 123 mt_123 := ⟨by decide, rfl, (pj_tb4 (k := 70) (by rfl)), (pj_tb1 (k := 1) (by decide +kernel)), by decide, by decide, by decide +kernel, by decide, rfl, ⟨Or.inr (Or.inl rfl), Or.inl ⟨rfl, (pj_tb4 (k := 68) (by decide +kernel)), (pj_tb4 (k := 69) (by decide +kernel)), by decide⟩⟩⟩
theorem mo_124 : pj_okP 124 mt_124 := ⟨by decide, rfl, (pj_tb4 (k := 78) (by rfl)), (pj_tb1 (k := 1) (by decide +kernel)), by decide, by decide, by decide +kernel, by decide, rfl, ⟨Or.inr (Or.inl rfl), Or.inl ⟨rfl, (pj_tb4 (k := 76) (by decide +kernel)), (pj_tb4 (k := 77) (by decide +kernel)), by decide⟩⟩⟩
theorem mo_125 : pj_okP 125 mt_125 := ⟨by decide, rfl, (pj_tb4 (k := 82) (by rfl)), (pj_tb1 (k := 1) (by decide +kernel)), by decide, by decide, by decide +kernel, by decide, rfl, ⟨Or.inr (Or.inr (Or.inl rfl)), Or.inl ⟨rfl, (pj_tb4 (k := 80) (by decide +kernel)), (pj_tb4 (k := 81) (by decide +kernel)), by decide⟩⟩⟩
theorem mo_126 : pj_okP 126 mt_126 := ⟨by decide, rfl, (pj_tb4 (k := 106) (by rfl)), (pj_tb1 (k := 1) (by decide +kernel)), by decide, by decide, by decide +kernel, by decide, rfl, ⟨Or.inr (Or.inl rfl), Or.inl ⟨rfl, (pj_tb4 (k := 104) (by decide +kernel)), (pj_tb4 (k := 105) (by decide +kernel)), by decide⟩⟩⟩
theorem mo_127 : pj_okP 127 mt_127 := ⟨by decide, rfl, (pj_tb4 (k := 110) (by rfl)), (pj_tb1 (k := 1) (by decide +kernel)), by decide, by decide, by decide +kernel, by decide, rfl, ⟨Or.inr (Or.inr (Or.inr rfl)), Or.inl ⟨rfl, (pj_tb4 (k := 109) (by decide +kernel)), (pj_tk (k := 31) (by decide +kernel)), by decide⟩⟩⟩
theorem mo_128 : pj_okP 128 mt_128 := ⟨by decide, rfl, (pj_tb4 (k := 114) (by rfl)), (pj_tb1 (k := 1) (by decide +kernel)), by decide, by decide, by decide +kernel, by decide, rfl, ⟨Or.inl rfl, Or.inl ⟨rfl, (pj_tb4 (k := 113) (by decide +kernel)), (pj_tk (k := 32) (by decide +kernel)), by decide⟩⟩⟩
theorem mo_129 : pj_okP 129 mt_129 := ⟨by decide, rfl, (pj_tb4 (k := 166) (by rfl)), (pj_tb1 (k := 1) (by decide +kernel)), by decide, by decide, by decide +kernel, by decide, rfl, ⟨Or.inr (Or.inl rfl), Or.inl ⟨rfl, (pj_tb4 (k := 164) (by decide +kernel)), (pj_tb4 (k := 165) (by decide +kernel)), by decide⟩⟩⟩
theorem mo_130 : pj_okP 130 mt_130 := ⟨by decide, rfl, (pj_tb4 (k := 170) (by rfl)), (pj_tb1 (k := 1) (by decide +kernel)), by decide, by decide, by decide +kernel, by decide, rfl, ⟨Or.inr (Or.inl rfl), Or.inl ⟨rfl, (pj_tb4 (k := 168) (by decide +kernel)), (pj_tb4 (k := 169) (by decide +kernel)), by decide⟩⟩⟩
theorem mo_131 : pj_okP 131 mt_131 := ⟨by decide, rfl, (pj_tb4 (k := 174) (by rfl)), (pj_tb1 (k := 1) (by decide +kernel)), by decide, by decide, by decide +kernel, by decide, rfl, ⟨Or.inr (Or.inr (Or.inr rfl)), Or.inl ⟨rfl, (pj_tb4 (k := 173) (by decide +kernel)), (pj_tk (k := 37) (by decide +kernel)), by decide⟩⟩⟩
theorem mo_132 : pj_okP 132 mt_132 := ⟨by decide, rfl, (pj_tb4 (k := 178) (by rfl)), (pj_tb1 (k := 1) (by decide +kernel)), by decide, by decide, by decide +kernel, by decide, rfl, ⟨Or.inr (Or.inl rfl), Or.inl ⟨rfl, (pj_tb4 (k := 176) (by decide +kernel)), (pj_tb4 (k := 177) (by decide +kernel)), by decide⟩⟩⟩
theorem mo_133 : pj_okP 133 mt_133 := ⟨by decide, rfl, (pj_tb4 (k := 209) (by rfl)), (pj_tb1 (k := 1) (by decide +kernel)), by decide, by decide, by decide +kernel, by decide, rfl, ⟨Or.inr (Or.inl rfl), Or.inl ⟨rfl, (pj_tb4 (k := 207) (by decide +kernel)), (pj_tb4 (k := 208) (by decide +kernel)), by decide⟩⟩⟩
theorem mo_134 : pj_okP 134 mt_134 := ⟨by decide, rfl, (pj_tb4 (k := 213) (by rfl)), (pj_tb1 (k := 1) (by decide +kernel)), by decide, by decide, by decide +kernel, by decide, rfl, ⟨Or.inr (Or.inr (Or.inr rfl)), Or.inl ⟨rfl, (pj_tb4 (k := 212) (by decide +kernel)), (pj_tk (k := 41) (by decide +kernel)), by decide⟩⟩⟩
theorem mo_135 : pj_okP 135 mt_135 := ⟨by decide, rfl, (pj_tb4 (k := 217) (by rfl)), (pj_tb1 (k := 1) (by decide +kernel)), by decide, by decide, by decide +kernel, by decide, rfl, ⟨Or.inr (Or.inr (Or.inr rfl)), Or.inl ⟨rfl, (pj_tb4 (k := 216) (by decide +kernel)), (pj_tk (k := 42) (by decide +kernel)), by decide⟩⟩⟩
theorem mo_136 : pj_okP 136 mt_136 := ⟨by decide, rfl, (pj_tb4 (k := 222) (by rfl)), (pj_tb1 (k := 1) (by decide +kernel)), by decide, by decide, by decide +kernel, by decide, rfl, ⟨Or.inr (Or.inl rfl), Or.inl ⟨rfl, (pj_tb4 (k := 220) (by decide +kernel)), (pj_tb4 (k := 221) (by decide +kernel)), by decide⟩⟩⟩
theorem mo_137 : pj_okP 137 mt_137 := ⟨by decide, rfl, (pj_tb5 (k := 29) (by rfl)), (pj_tb1 (k := 1) (by decide +kernel)), by decide, by decide, by decide +kernel, by decide, rfl, ⟨Or.inr (Or.inl rfl), Or.inl ⟨rfl, (pj_tb5 (k := 27) (by decide +kernel)), (pj_tb5 (k := 28) (by decide +kernel)), by decide⟩⟩⟩
theorem mo_138 : pj_okP 138 mt_138 := ⟨by decide, rfl, (pj_tb5 (k := 33) (by rfl)), (pj_tb1 (k := 1) (by decide +kernel)), by decide, by decide, by decide +kernel, by decide, rfl, ⟨Or.inr (Or.inl rfl), Or.inl ⟨rfl, (pj_tb5 (k := 31) (by decide +kernel)), (pj_tb5 (k := 32) (by decide +kernel)), by decide⟩⟩⟩
theorem mo_139 : pj_okP 139 mt_139 := ⟨by decide, rfl, (pj_tb5 (k := 38) (by rfl)), (pj_tb1 (k := 1) (by decide +kernel)), by decide, by decide, by decide +kernel, by decide, rfl, ⟨Or.inr (Or.inl rfl), Or.inl ⟨rfl, (pj_tb5 (k := 36) (by decide +kernel)), (pj_tb5 (k := 37) (by decide +kernel)), by decide⟩⟩⟩
theorem mo_140 : pj_okP 140 mt_140 := ⟨by decide, rfl, (pj_tb5 (k := 47) (by rfl)), (pj_tb1 (k := 1) (by decide +kernel)), by decide, by decide, by decide +kernel, by decide, rfl, ⟨Or.inr (Or.inl rfl), Or.inl ⟨rfl, (pj_tb5 (k := 45) (by decide +kernel)), (pj_tb5 (k := 46) (by decide +kernel)), by decide⟩⟩⟩
theorem mo_141 : pj_okP 141 mt_141 := ⟨by decide, rfl, (pj_tb5 (k := 80) (by rfl)), (pj_tb1 (k := 1) (by decide +kernel)), by decide, by decide, by decide +kernel, by decide, rfl, ⟨Or.inr (Or.inl rfl), Or.inl ⟨rfl, (pj_tb5 (k := 78) (by decide +kernel)), (pj_tb5 (k := 79) (by decide +kernel)), by decide⟩⟩⟩
theorem mo_142 : pj_okP 142 mt_142 := ⟨by decide, rfl, (pj_tb5 (k := 92) (by rfl)), (pj_tb1 (k := 1) (by decide +kernel)), by decide, by decide, by decide +kernel, by decide, rfl, ⟨Or.inr (Or.inl rfl), Or.inl ⟨rfl, (pj_tb5 (k := 90) (by decide +kernel)), (pj_tb5 (k := 91) (by decide +kernel)), by decide⟩⟩⟩
theorem mo_143 : pj_okP 143 mt_143 := ⟨by decide, rfl, (pj_tb5 (k := 102) (by rfl)), (pj_tb1 (k := 1) (by decide +kernel)), by decide, by decide, by decide +kernel, by decide, rfl, ⟨Or.inl rfl, Or.inl ⟨rfl, (pj_tb5 (k := 101) (by decide +kernel)), (pj_tk (k := 55) (by decide +kernel)), by decide⟩⟩⟩
theorem mo_144 : pj_okP 144 mt_144 := ⟨by decide, rfl, (pj_tb5 (k := 106) (by rfl)), (pj_tb1 (k := 1) (by decide +kernel)), by decide, by decide, by decide +kernel, by decide, rfl, ⟨Or.inr (Or.inl rfl), Or.inl ⟨rfl, (pj_tb5 (k := 104) (by decide +kernel)), (pj_tb5 (k := 105) (by decide +kernel)), by decide⟩⟩⟩
theorem mo_145 : pj_okP 145 mt_145 := ⟨by decide, rfl, (pj_tb5 (k := 110) (by rfl)), (pj_tb1 (k := 1) (by decide +kernel)), by decide, by decide, by decide +kernel, by decide, rfl, ⟨Or.inr (Or.inr (Or.inr rfl)), Or.inl ⟨rfl, (pj_tb5 (k := 109) (by decide +kernel)), (pj_tk (k := 56) (by decide +kernel)), by decide⟩⟩⟩
theorem mo_146 : pj_okP 146 mt_146 := ⟨by decide, rfl, (pj_tb5 (k := 114) (by rfl)), (pj_tb1 (k := 1) (by decide +kernel)), by decide, by decide, by decide +kernel, by decide, rfl, ⟨Or.inr (Or.inl rfl), Or.inl ⟨rfl, (pj_tb5 (k := 113) (by decide +kernel)), (pj_tk (k := 57) (by decide +kernel)), by decide⟩⟩⟩
theorem mo_147 : pj_okP 147 mt_147 := ⟨by decide, rfl, (pj_tb5 (k := 126) (by rfl)), (pj_tb1 (k := 1) (by decide +kernel)), by decide, by decide, by decide +kernel, by decide, rfl, ⟨Or.inr (Or.inr (Or.inr rfl)), Or.inl ⟨rfl, (pj_tb5 (k := 124) (by decide +kernel)), (pj_tb5 (k := 125) (by decide +kernel)), by decide⟩⟩⟩
theorem mo_148 : pj_okP 148 mt_148 := ⟨by decide, rfl, (pj_tb5 (k := 131) (by rfl)), (pj_tb1 (k := 1) (by decide +kernel)), by decide, by decide, by decide +kernel, by decide, rfl, ⟨Or.inr (Or.inr (Or.inr rfl)), Or.inl ⟨rfl, (pj_tb5 (k := 129) (by decide +kernel)), (pj_tb5 (k := 130) (by decide +kernel)), by decide⟩⟩⟩
theorem mo_149 : pj_okP 149 mt_149 := ⟨by decide, rfl, (pj_tb5 (k := 135) (by rfl)), (pj_tb1 (k := 1) (by decide +kernel)), by decide, by decide, by decide +kernel, by decide, rfl, ⟨Or.inr (Or.inr (Or.inr rfl)), Or.inl ⟨rfl, (pj_tb5 (k := 134) (by decide +kernel)), (pj_tk (k := 58) (by decide +kernel)), by decide⟩⟩⟩
theorem mo_150 : pj_okP 150 mt_150 := ⟨by decide, rfl, (pj_tb5 (k := 140) (by rfl)), (pj_tb1 (k := 1) (by decide +kernel)), by decide, by decide, by decide +kernel, by decide, rfl, ⟨Or.inr (Or.inr (Or.inr rfl)), Or.inl ⟨rfl, (pj_tb5 (k := 138) (by decide +kernel)), (pj_tb5 (k := 139) (by decide +kernel)), by decide⟩⟩⟩
theorem mo_151 : pj_okP 151 mt_151 := ⟨by decide, rfl, (pj_tb5 (k := 144) (by rfl)), (pj_tb1 (k := 1) (by decide +kernel)), by decide, by decide, by decide +kernel, by decide, rfl, ⟨Or.inr (Or.inr (Or.inr rfl)), Or.inl ⟨rfl, (pj_tb5 (k := 142) (by decide +kernel)), (pj_tb5 (k := 143) (by decide +kernel)), by decide⟩⟩⟩
theorem mo_152 : pj_okP 152 mt_152 := ⟨by decide, rfl, (pj_tb5 (k := 152) (by rfl)), (pj_tb1 (k := 1) (by decide +kernel)), by decide, by decide, by decide +kernel, by decide, rfl, ⟨Or.inr (Or.inr (Or.inr rfl)), Or.inl ⟨rfl, (pj_tb5 (k := 150) (by decide +kernel)), (pj_tb5 (k := 151) (by decide +kernel)), by decide⟩⟩⟩
theorem mo_153 : pj_okP 153 mt_153 := ⟨by decide, rfl, (pj_tb5 (k := 156) (by rfl)), (pj_tb1 (k := 1) (by decide +kernel)), by decide, by decide, by decide +kernel, by decide, rfl, ⟨Or.inr (Or.inl rfl), Or.inl ⟨rfl, (pj_tb5 (k := 154) (by decide +kernel)), (pj_tb5 (k := 155) (by decide +kernel)), by decide⟩⟩⟩
theorem mo_154 : pj_okP 154 mt_154 := ⟨by decide, rfl, (pj_tb5 (k := 160) (by rfl)), (pj_tb1 (k := 1) (by decide +kernel)), by decide, by decide, by decide +kernel, by decide, rfl, ⟨Or.inr (Or.inl rfl), Or.inl ⟨rfl, (pj_tb5 (k := 158) (by decide +kernel)), (pj_tb5 (k := 159) (by decide +kernel)), by decide⟩⟩⟩
theorem mo_155 : pj_okP 155 mt_155 := ⟨by decide, rfl, (pj_tb5 (k := 172) (by rfl)), (pj_tb1 (k := 1) (by decide +kernel)), by decide, by decide, by decide +kernel, by decide, rfl, ⟨Or.inr (Or.inl rfl), Or.inl ⟨rfl, (pj_tb5 (k := 170) (by decide +kernel)), (pj_tb5 (k := 171) (by decide +kernel)), by decide⟩⟩⟩
theorem mo_156 : pj_okP 156 mt_156 := ⟨by decide, rfl, (pj_tb5 (k := 176) (by rfl)), (pj_tb1 (k := 1) (by decide +kernel)), by decide, by decide, by decide +kernel, by decide, rfl, ⟨Or.inr (Or.inr (Or.inr rfl)), Or.inl ⟨rfl, (pj_tb5 (k := 174) (by decide +kernel)), (pj_tb5 (k := 175) (by decide +kernel)), by decide⟩⟩⟩
theorem mo_157 : pj_okP 157 mt_157 := ⟨by decide, rfl, (pj_tb5 (k := 195) (by rfl)), (pj_tb1 (k := 1) (by decide +kernel)), by decide, by decide, by decide +kernel, by decide, rfl, ⟨Or.inr (Or.inl rfl), Or.inl ⟨rfl, (pj_tb5 (k := 193) (by decide +kernel)), (pj_tb5 (k := 194) (by decide +kernel)), by decide⟩⟩⟩
theorem mo_158 : pj_okP 158 mt_158 := ⟨by decide, rfl, (pj_tb5 (k := 200) (by rfl)), (pj_tb1 (k := 17) (by decide +kernel)), by decide, by decide, by decide +kernel, by decide, rfl, ⟨Or.inl rfl, Or.inr (Or.inr ⟨rfl, (pj_tb5 (k := 199) (by decide +kernel)), by decide, rfl⟩)⟩⟩
theorem mo_159 : pj_okP 159 mt_159 := ⟨by decide, rfl, (pj_tb6 (k := 168) (by rfl)), (pj_tb1 (k := 17) (by decide +kernel)), by decide, by decide, by decide +kernel, by decide, rfl, ⟨Or.inr (Or.inl rfl), Or.inl ⟨rfl, (pj_tb6 (k := 166) (by decide +kernel)), (pj_tb6 (k := 167) (by decide +kernel)), by decide⟩⟩⟩
theorem mo_160 : pj_okP 160 mt_160 := ⟨by decide, rfl, (pj_tb6 (k := 172) (by rfl)), (pj_tb1 (k := 17) (by decide +kernel)), by decide, by decide, by decide +kernel, by decide, rfl, ⟨Or.inr (Or.inl rfl), Or.inl ⟨rfl, (pj_tb6 (k := 171) (by decide +kernel)), (pj_tk (k := 61) (by decide +kernel)), by decide⟩⟩⟩
theorem mo_161 : pj_okP 161 mt_161 := ⟨by decide, rfl, (pj_tb6 (k := 176) (by rfl)), (pj_tb1 (k := 17) (by decide +kernel)), by decide, by decide, by decide +kernel, by decide, rfl, ⟨Or.inl rfl, Or.inl ⟨rfl, (pj_tb6 (k := 175) (by decide +kernel)), (pj_tk (k := 62) (by decide +kernel)), by decide⟩⟩⟩
theorem mo_162 : pj_okP 162 mt_162 := ⟨by decide, rfl, (pj_tb6 (k := 180) (by rfl)), (pj_tb1 (k := 17) (by decide +kernel)), by decide, by decide, by decide +kernel, by decide, rfl, ⟨Or.inr (Or.inr (Or.inr rfl)), Or.inl ⟨rfl, (pj_tb6 (k := 178) (by decide +kernel)), (pj_tb6 (k := 179) (by decide +kernel)), by decide⟩⟩⟩
theorem mo_163 : pj_okP 163 mt_163 := ⟨by decide, rfl, (pj_tb6 (k := 184) (by rfl)), (pj_tb1 (k := 17) (by decide +kernel)), by decide, by decide, by decide +kernel, by decide, rfl, ⟨Or.inr (Or.inl rfl), Or.inl ⟨rfl, (pj_tb6 (k := 182) (by decide +kernel)), (pj_tb6 (k := 183) (by decide +kernel)), by decide⟩⟩⟩
theorem mo_164 : pj_okP 164 mt_164 := ⟨by decide, rfl, (pj_tb6 (k := 188) (by rfl)), (pj_tb1 (k := 17) (by decide +kernel)), by decide, by decide, by decide +kernel, by decide, rfl, ⟨Or.inl rfl, Or.inl ⟨rfl, (pj_tb6 (k := 187) (by decide +kernel)), (pj_tk (k := 63) (by decide +kernel)), by decide⟩⟩⟩
theorem mo_165 : pj_okP 165 mt_165 := ⟨by decide, rfl, (pj_tb6 (k := 191) (by rfl)), (pj_tb1 (k := 17) (by decide +kernel)), by decide, by decide, by decide +kernel, by decide, rfl, ⟨Or.inr (Or.inr (Or.inr rfl)), Or.inr (Or.inl ⟨rfl, (pj_tb6 (k := 190) (by decide +kernel)), by decide⟩)⟩⟩
theorem mo_166 : pj_okP 166 mt_166 := ⟨by decide, rfl, (pj_tb6 (k := 194) (by rfl)), (pj_tb1 (k := 17) (by decide +kernel)), by decide, by decide, by decide +kernel, by decide, rfl, ⟨Or.inr (Or.inr (Or.inr rfl)), Or.inr (Or.inl ⟨rfl, (pj_tb6 (k := 193) (by decide +kernel)), by decide⟩)⟩⟩
theorem mo_167 : pj_okP 167 mt_167 := ⟨by decide, rfl, (pj_tb6 (k := 198) (by rfl)), (pj_tb1 (k := 17) (by decide +kernel)), by decide, by decide, by decide +kernel, by decide, rfl, ⟨Or.inl rfl, Or.inl ⟨rfl, (pj_tb6 (k := 197) (by decide +kernel)), (pj_tk (k := 64) (by decide +kernel)), by decide⟩⟩⟩
theorem mo_168 : pj_okP 168 mt_168 := ⟨by decide, rfl, (pj_tb6 (k := 202) (by rfl)), (pj_tb1 (k := 17) (by decide +kernel)), by decide, by decide, by decide +kernel, by decide, rfl, ⟨Or.inl rfl, Or.inl ⟨rfl, (pj_tb6 (k := 201) (by decide +kernel)), (pj_tk (k := 65) (by decide +kernel)), by decide⟩⟩⟩
theorem mo_169 : pj_okP 169 mt_169 := ⟨by decide, rfl, (pj_tb6 (k := 206) (by rfl)), (pj_tb1 (k := 17) (by decide +kernel)), by decide, by decide, by decide +kernel, by decide, rfl, ⟨Or.inl rfl, Or.inl ⟨rfl, (pj_tb6 (k := 205) (by decide +kernel)), (pj_tk (k := 66) (by decide +kernel)), by decide⟩⟩⟩
theorem mo_170 : pj_okP 170 mt_170 := ⟨by decide, rfl, (pj_tb6 (k := 211) (by rfl)), (pj_tb1 (k := 17) (by decide +kernel)), by decide, by decide, by decide +kernel, by decide, rfl, ⟨Or.inr (Or.inr (Or.inr rfl)), Or.inl ⟨rfl, (pj_tb6 (k := 210) (by decide +kernel)), (pj_tk (k := 67) (by decide +kernel)), by decide⟩⟩⟩
theorem mo_171 : pj_okP 171 mt_171 := ⟨by decide, rfl, (pj_tb6 (k := 215) (by rfl)), (pj_tb1 (k := 17) (by decide +kernel)), by decide, by decide, by decide +kernel, by decide, rfl, ⟨Or.inl rfl, Or.inl ⟨rfl, (pj_tb6 (k := 214) (by decide +kernel)), (pj_tk (k := 68) (by decide +kernel)), by decide⟩⟩⟩
theorem mo_172 : pj_okP 172 mt_172 := ⟨by decide, rfl, (pj_tb6 (k := 219) (by rfl)), (pj_tb1 (k := 17) (by decide +kernel)), by decide, by decide, by decide +kernel, by decide, rfl, ⟨Or.inr (Or.inr (Or.inr rfl)), Or.inl ⟨rfl, (pj_tb6 (k := 218) (by decide +kernel)), (pj_tk (k := 69) (by decide +kernel)), by decide⟩⟩⟩
theorem mo_173 : pj_okP 173 mt_173 := ⟨by decide, rfl, (pj_tb6 (k := 223) (by rfl)), (pj_tb1 (k := 17) (by decide +kernel)), by decide, by decide, by decide +kernel, by decide, rfl, ⟨Or.inr (Or.inr (Or.inl rfl)), Or.inl ⟨rfl, (pj_tb6 (k := 222) (by decide +kernel)), (pj_tk (k := 70) (by decide +kernel)), by decide⟩⟩⟩
theorem mo_174 : pj_okP 174 mt_174 := ⟨by decide, rfl, (pj_tb6 (k := 227) (by rfl)), (pj_tb1 (k := 17) (by decide +kernel)), by decide, by decide, by decide +kernel, by decide, rfl, ⟨Or.inr (Or.inr (Or.inr rfl)), Or.inl ⟨rfl, (pj_tb6 (k := 226) (by decide +kernel)), (pj_tk (k := 71) (by decide +kernel)), by decide⟩⟩⟩
theorem mo_175 : pj_okP 175 mt_175 := ⟨by decide, rfl, (pj_tb7 (k := 12) (by rfl)), (pj_tb1 (k := 17) (by decide +kernel)), by decide, by decide, by decide +kernel, by decide, rfl, ⟨Or.inr (Or.inl rfl), Or.inl ⟨rfl, (pj_tb7 (k := 11) (by decide +kernel)), (pj_tk (k := 72) (by decide +kernel)), by decide⟩⟩⟩
theorem mo_176 : pj_okP 176 mt_176 := ⟨by decide, rfl, (pj_tb7 (k := 16) (by rfl)), (pj_tb1 (k := 17) (by decide +kernel)), by decide, by decide, by decide +kernel, by decide, rfl, ⟨Or.inr (Or.inl rfl), Or.inl ⟨rfl, (pj_tb7 (k := 15) (by decide +kernel)), (pj_tk (k := 73) (by decide +kernel)), by decide⟩⟩⟩
theorem mo_177 : pj_okP 177 mt_177 := ⟨by decide, rfl, (pj_tb7 (k := 20) (by rfl)), (pj_tb1 (k := 17) (by decide +kernel)), by decide, by decide, by decide +kernel, by decide, rfl, ⟨Or.inl rfl, Or.inl ⟨rfl, (pj_tb7 (k := 19) (by decide +kernel)), (pj_tk (k := 74) (by decide +kernel)), by decide⟩⟩⟩
theorem mo_178 : pj_okP 178 mt_178 := ⟨by decide, rfl, (pj_tb7 (k := 24) (by rfl)), (pj_tb1 (k := 17) (by decide +kernel)), by decide, by decide, by decide +kernel, by decide, rfl, ⟨Or.inr (Or.inl rfl), Or.inl ⟨rfl, (pj_tb7 (k := 23) (by decide +kernel)), (pj_tk (k := 75) (by decide +kernel)), by decide⟩⟩⟩
theorem mo_179 : pj_okP 179 mt_179 := ⟨by decide, rfl, (pj_tb7 (k := 27) (by rfl)), (pj_tb1 (k := 17) (by decide +kernel)), by decide, by decide, by decide +kernel, by decide, rfl, ⟨Or.inr (Or.inr (Or.inr rfl)), Or.inr (Or.inl ⟨rfl, (pj_tb7 (k := 26) (by decide +kernel)), by decide⟩)⟩⟩
theorem mo_180 : pj_okP 180 mt_180 := ⟨by decide, rfl, (pj_tb7 (k := 31) (by rfl)), (pj_tb1 (k := 17) (by decide +kernel)), by decide, by decide, by decide +kernel, by decide, rfl, ⟨Or.inl rfl, Or.inl ⟨rfl, (pj_tb7 (k := 30) (by decide +kernel)), (pj_tk (k := 76) (by decide +kernel)), by decide⟩⟩⟩
theorem mo_181 : pj_okP 181 mt_181 := ⟨by decide, rfl, (pj_tb7 (k := 35) (by rfl)), (pj_tb1 (k := 17) (by decide +kernel)), by decide, by decide, by decide +kernel, by decide, rfl, ⟨Or.inl rfl, Or.inl ⟨rfl, (pj_tb7 (k := 34) (by decide +kernel)), (pj_tk (k := 77) (by decide +kernel)), by decide⟩⟩⟩
theorem mo_182 : pj_okP 182 mt_182 := ⟨by decide, rfl, (pj_tb7 (k := 39) (by rfl)), (pj_tb1 (k := 17) (by decide +kernel)), by decide, by decide, by decide +kernel, by decide, rfl, ⟨Or.inr (Or.inr (Or.inl rfl)), Or.inl ⟨rfl, (pj_tb7 (k := 38) (by decide +kernel)), (pj_tk (k := 78) (by decide +kernel)), by decide⟩⟩⟩
theorem mo_183 : pj_okP 183 mt_183 := ⟨by decide, rfl, (pj_tb7 (k := 43) (by rfl)), (pj_tb1 (k := 17) (by decide +kernel)), by decide, by decide, by decide +kernel, by decide, rfl, ⟨Or.inr (Or.inr (Or.inr rfl)), Or.inl ⟨rfl, (pj_tb7 (k := 42) (by decide +kernel)), (pj_tk (k := 79) (by decide +kernel)), by decide⟩⟩⟩
theorem mo_184 : pj_okP 184 mt_184 := ⟨by decide, rfl, (pj_tb7 (k := 47) (by rfl)), (pj_tb1 (k := 17) (by decide +kernel)), by decide, by decide, by decide +kernel, by decide, rfl, ⟨Or.inl rfl, Or.inl ⟨rfl, (pj_tb7 (k := 46) (by decide +kernel)), (pj_tk (k := 80) (by decide +kernel)), by decide⟩⟩⟩
theorem mo_185 : pj_okP 185 mt_185 := ⟨by decide, rfl, (pj_tb7 (k := 51) (by rfl)), (pj_tb1 (k := 17) (by decide +kernel)), by decide, by decide, by decide +kernel, by decide, rfl, ⟨Or.inl rfl, Or.inl ⟨rfl, (pj_tb7 (k := 50) (by decide +kernel)), (pj_tk (k := 81) (by decide +kernel)), by decide⟩⟩⟩
theorem mo_186 : pj_okP 186 mt_186 := ⟨by decide, rfl, (pj_tb7 (k := 55) (by rfl)), (pj_tb1 (k := 17) (by decide +kernel)), by decide, by decide, by decide +kernel, by decide, rfl, ⟨Or.inl rfl, Or.inl ⟨rfl, (pj_tb7 (k := 54) (by decide +kernel)), (pj_tk (k := 82) (by decide +kernel)), by decide⟩⟩⟩
theorem mo_187 : pj_okP 187 mt_187 := ⟨by decide, rfl, (pj_tb7 (k := 59) (by rfl)), (pj_tb1 (k := 17) (by decide +kernel)), by decide, by decide, by decide +kernel, by decide, rfl, ⟨Or.inr (Or.inr (Or.inr rfl)), Or.inl ⟨rfl, (pj_tb7 (k := 58) (by decide +kernel)), (pj_tk (k := 83) (by decide +kernel)), by decide⟩⟩⟩
theorem mo_188 : pj_okP 188 mt_188 := ⟨by decide, rfl, (pj_tb7 (k := 62) (by rfl)), (pj_tb1 (k := 17) (by decide +kernel)), by decide, by decide, by decide +kernel, by decide, rfl, ⟨Or.inr (Or.inr (Or.inr rfl)), Or.inr (Or.inl ⟨rfl, (pj_tb7 (k := 61) (by decide +kernel)), by decide⟩)⟩⟩
theorem mo_189 : pj_okP 189 mt_189 := ⟨by decide, rfl, (pj_tb7 (k := 66) (by rfl)), (pj_tb1 (k := 17) (by decide +kernel)), by decide, by decide, by decide +kernel, by decide, rfl, ⟨Or.inl rfl, Or.inl ⟨rfl, (pj_tb7 (k := 65) (by decide +kernel)), (pj_tk (k := 84) (by decide +kernel)), by decide⟩⟩⟩
theorem mo_190 : pj_okP 190 mt_190 := ⟨by decide, rfl, (pj_tb7 (k := 70) (by rfl)), (pj_tb1 (k := 17) (by decide +kernel)), by decide, by decide, by decide +kernel, by decide, rfl, ⟨Or.inr (Or.inr (Or.inr rfl)), Or.inl ⟨rfl, (pj_tb7 (k := 69) (by decide +kernel)), (pj_tk (k := 85) (by decide +kernel)), by decide⟩⟩⟩
theorem mo_191 : pj_okP 191 mt_191 := ⟨by decide, rfl, (pj_tb7 (k := 74) (by rfl)), (pj_tb1 (k := 17) (by decide +kernel)), by decide, by decide, by decide +kernel, by decide, rfl, ⟨Or.inl rfl, Or.inl ⟨rfl, (pj_tb7 (k := 73) (by decide +kernel)), (pj_tk (k := 86) (by decide +kernel)), by decide⟩⟩⟩
theorem mo_192 : pj_okP 192 mt_192 := ⟨by decide, rfl, (pj_tb7 (k := 78) (by rfl)), (pj_tb1 (k := 17) (by decide +kernel)), by decide, by decide, by decide +kernel, by decide, rfl, ⟨Or.inl rfl, Or.inl ⟨rfl, (pj_tb7 (k := 77) (by decide +kernel)), (pj_tk (k := 87) (by decide +kernel)), by decide⟩⟩⟩
theorem mo_193 : pj_okP 193 mt_193 := ⟨by decide, rfl, (pj_tb7 (k := 82) (by rfl)), (pj_tb1 (k := 17) (by decide +kernel)), by decide, by decide, by decide +kernel, by decide, rfl, ⟨Or.inr (Or.inr (Or.inr rfl)), Or.inl ⟨rfl, (pj_tb7 (k := 81) (by decide +kernel)), (pj_tk (k := 88) (by decide +kernel)), by decide⟩⟩⟩
theorem mo_194 : pj_okP 194 mt_194 := ⟨by decide, rfl, (pj_tb7 (k := 86) (by rfl)), (pj_tb1 (k := 17) (by decide +kernel)), by decide, by decide, by decide +kernel, by decide, rfl, ⟨Or.inl rfl, Or.inl ⟨rfl, (pj_tb7 (k := 85) (by decide +kernel)), (pj_tk (k := 89) (by decide +kernel)), by decide⟩⟩⟩
theorem mo_195 : pj_okP 195 mt_195 := ⟨by decide, rfl, (pj_tb7 (k := 89) (by rfl)), (pj_tb1 (k := 17) (by decide +kernel)), by decide, by decide, by decide +kernel, by decide, rfl, ⟨Or.inr (Or.inl rfl), Or.inr (Or.inl ⟨rfl, (pj_tb7 (k := 88) (by decide +kernel)), by decide⟩)⟩⟩
theorem mo_196 : pj_okP 196 mt_196 := ⟨by decide, rfl, (pj_tb7 (k := 93) (by rfl)), (pj_tb1 (k := 17) (by decide +kernel)), by decide, by decide, by decide +kernel, by decide, rfl, ⟨Or.inl rfl, Or.inl ⟨rfl, (pj_tb7 (k := 92) (by decide +kernel)), (pj_tk (k := 90) (by decide +kernel)), by decide⟩⟩⟩
theorem mo_197 : pj_okP 197 mt_197 := ⟨by decide, rfl, (pj_tb7 (k := 97) (by rfl)), (pj_tb1 (k := 17) (by decide +kernel)), by decide, by decide, by decide +kernel, by decide, rfl, ⟨Or.inl rfl, Or.inl ⟨rfl, (pj_tb7 (k := 96) (by decide +kernel)), (pj_tk (k := 91) (by decide +kernel)), by decide⟩⟩⟩
theorem mo_198 : pj_okP 198 mt_198 := ⟨by decide, rfl, (pj_tb7 (k := 101) (by rfl)), (pj_tb1 (k := 17) (by decide +kernel)), by decide, by decide, by decide +kernel, by decide, rfl, ⟨Or.inl rfl, Or.inl ⟨rfl, (pj_tb7 (k := 100) (by decide +kernel)), (pj_tk (k := 92) (by decide +kernel)), by decide⟩⟩⟩
theorem mo_199 : pj_okP 199 mt_199 := ⟨by decide, rfl, (pj_tb7 (k := 105) (by rfl)), (pj_tb1 (k := 17) (by decide +kernel)), by decide, by decide, by decide +kernel, by decide, rfl, ⟨Or.inl rfl, Or.inl ⟨rfl, (pj_tb7 (k := 104) (by decide +kernel)), (pj_tk (k := 93) (by decide +kernel)), by decide⟩⟩⟩
theorem mo_200 : pj_okP 200 mt_200 := ⟨by decide, rfl, (pj_tb7 (k := 109) (by rfl)), (pj_tb1 (k := 17) (by decide +kernel)), by decide, by decide, by decide +kernel, by decide, rfl, ⟨Or.inr (Or.inl rfl), Or.inl ⟨rfl, (pj_tb7 (k := 107) (by decide +kernel)), (pj_tb7 (k := 108) (by decide +kernel)), by decide⟩⟩⟩
theorem mo_201 : pj_okP 201 mt_201 := ⟨by decide, rfl, (pj_tb7 (k := 113) (by rfl)), (pj_tb1 (k := 17) (by decide +kernel)), by decide, by decide, by decide +kernel, by decide, rfl, ⟨Or.inr (Or.inl rfl), Or.inl ⟨rfl, (pj_tb7 (k := 111) (by decide +kernel)), (pj_tb7 (k := 112) (by decide +kernel)), by decide⟩⟩⟩
theorem mo_202 : pj_okP 202 mt_202 := ⟨by decide, rfl, (pj_tb7 (k := 117) (by rfl)), (pj_tb1 (k := 17) (by decide +kernel)), by decide, by decide, by decide +kernel, by decide, rfl, ⟨Or.inr (Or.inr (Or.inr rfl)), Or.inl ⟨rfl, (pj_tb7 (k := 115) (by decide +kernel)), (pj_tb7 (k := 116) (by decide +kernel)), by decide⟩⟩⟩
theorem mo_203 : pj_okP 203 mt_203 := ⟨by decide, rfl, (pj_tb7 (k := 121) (by rfl)), (pj_tb1 (k := 17) (by decide +kernel)), by decide, by decide, by decide +kernel, by decide, rfl, ⟨Or.inr (Or.inl rfl), Or.inl ⟨rfl, (pj_tb7 (k := 120) (by decide +kernel)), (pj_tk (k := 94) (by decide +kernel)), by decide⟩⟩⟩
theorem mo_204 : pj_okP 204 mt_204 := ⟨by decide, rfl, (pj_tb7 (k := 125) (by rfl)), (pj_tb1 (k := 17) (by decide +kernel)), by decide, by decide, by decide +kernel, by decide, rfl, ⟨Or.inl rfl, Or.inl ⟨rfl, (pj_tb7 (k := 124) (by decide +kernel)), (pj_tk (k := 95) (by decide +kernel)), by decide⟩⟩⟩
theorem mo_205 : pj_okP 205 mt_205 := ⟨by decide, rfl, (pj_tb7 (k := 129) (by rfl)), (pj_tb1 (k := 17) (by decide +kernel)), by decide, by decide, by decide +kernel, by decide, rfl, ⟨Or.inr (Or.inl rfl), Or.inl ⟨rfl, (pj_tb7 (k := 127) (by decide +kernel)), (pj_tb7 (k := 128) (by decide +kernel)), by decide⟩⟩⟩
theorem mo_206 : pj_okP 206 mt_206 := ⟨by decide, rfl, (pj_tb7 (k := 133) (by rfl)), (pj_tb1 (k := 17) (by decide +kernel)), by decide, by decide, by decide +kernel, by decide, rfl, ⟨Or.inr (Or.inr (Or.inr rfl)), Or.inl ⟨rfl, (pj_tb7 (k := 132) (by decide +kernel)), (pj_tk (k := 96) (by decide +kernel)), by decide⟩⟩⟩
theorem mo_207 : pj_okP 207 mt_207 := ⟨by decide, rfl, (pj_tb7 (k := 136) (by rfl)), (pj_tb1 (k := 17) (by decide +kernel)), by decide, by decide, by decide +kernel, by decide, rfl, ⟨Or.inr (Or.inr (Or.inr rfl)), Or.inr (Or.inl ⟨rfl, (pj_tb7 (k := 135) (by decide +kernel)), by decide⟩)⟩⟩
theorem mo_208 : pj_okP 208 mt_208 := ⟨by decide, rfl, (pj_tb7 (k := 140) (by rfl)), (pj_tb1 (k := 17) (by decide +kernel)), by decide, by decide, by decide +kernel, by decide, rfl, ⟨Or.inr (Or.inr (Or.inr rfl)), Or.inl ⟨rfl, (pj_tb7 (k := 139) (by decide +kernel)), (pj_tk (k := 97) (by decide +kernel)), by decide⟩⟩⟩
theorem mo_209 : pj_okP 209 mt_209 := ⟨by decide, rfl, (pj_tb7 (k := 144) (by rfl)), (pj_tb1 (k := 17) (by decide +kernel)), by decide, by decide, by decide +kernel, by decide, rfl, ⟨Or.inr (Or.inl rfl), Or.inl ⟨rfl, (pj_tb7 (k := 143) (by decide +kernel)), (pj_tk (k := 98) (by decide +kernel)), by decide⟩⟩⟩
theorem mo_210 : pj_okP 210 mt_210 := ⟨by decide, rfl, (pj_tb7 (k := 148) (by rfl)), (pj_tb1 (k := 17) (by decide +kernel)), by decide, by decide, by decide +kernel, by decide, rfl, ⟨Or.inr (Or.inl rfl), Or.inl ⟨rfl, (pj_tb7 (k := 146) (by decide +kernel)), (pj_tb7 (k := 147) (by decide +kernel)), by decide⟩⟩⟩
theorem mo_211 : pj_okP 211 mt_211 := ⟨by decide, rfl, (pj_tb7 (k := 152) (by rfl)), (pj_tb1 (k := 17) (by decide +kernel)), by decide, by decide, by decide +kernel, by decide, rfl, ⟨Or.inr (Or.inr (Or.inr rfl)), Or.inl ⟨rfl, (pj_tb7 (k := 151) (by decide +kernel)), (pj_tk (k := 99) (by decide +kernel)), by decide⟩⟩⟩
theorem mo_212 : pj_okP 212 mt_212 := ⟨by decide, rfl, (pj_tb7 (k := 156) (by rfl)), (pj_tb1 (k := 17) (by decide +kernel)), by decide, by decide, by decide +kernel, by decide, rfl, ⟨Or.inr (Or.inr (Or.inr rfl)), Or.inl ⟨rfl, (pj_tb7 (k := 155) (by decide +kernel)), (pj_tk (k := 100) (by decide +kernel)), by decide⟩⟩⟩
theorem mo_213 : pj_okP 213 mt_213 := ⟨by decide, rfl, (pj_tb7 (k := 161) (by rfl)), (pj_tb1 (k := 17) (by decide +kernel)), by decide, by decide, by decide +kernel, by decide, rfl, ⟨Or.inr (Or.inl rfl), Or.inl ⟨rfl, (pj_tb7 (k := 159) (by decide +kernel)), (pj_tb7 (k := 160) (by decide +kernel)), by decide⟩⟩⟩
theorem mo_214 : pj_okP 214 mt_214 := ⟨by decide, rfl, (pj_tb7 (k := 165) (by rfl)), (pj_tb1 (k := 17) (by decide +kernel)), by decide, by decide, by decide +kernel, by decide, rfl, ⟨Or.inr (Or.inl rfl), Or.inl ⟨rfl, (pj_tb7 (k := 163) (by decide +kernel)), (pj_tb7 (k := 164) (by decide +kernel)), by decide⟩⟩⟩
theorem mo_215 : pj_okP 215 mt_215 := ⟨by decide, rfl, (pj_tb7 (k := 169) (by rfl)), (pj_tb1 (k := 17) (by decide +kernel)), by decide, by decide, by decide +kernel, by decide, rfl, ⟨Or.inr (Or.inr (Or.inl rfl)), Or.inl ⟨rfl, (pj_tb7 (k := 167) (by decide +kernel)), (pj_tb7 (k := 168) (by decide +kernel)), by decide⟩⟩⟩
theorem mo_216 : pj_okP 216 mt_216 := ⟨by decide, rfl, (pj_tb7 (k := 173) (by rfl)), (pj_tb1 (k := 17) (by decide +kernel)), by decide, by decide, by decide +kernel, by decide, rfl, ⟨Or.inr (Or.inr (Or.inl rfl)), Or.inl ⟨rfl, (pj_tb7 (k := 172) (by decide +kernel)), (pj_tk (k := 101) (by decide +kernel)), by decide⟩⟩⟩
theorem mo_217 : pj_okP 217 mt_217 := ⟨by decide, rfl, (pj_tb7 (k := 177) (by rfl)), (pj_tb1 (k := 17) (by decide +kernel)), by decide, by decide, by decide +kernel, by decide, rfl, ⟨Or.inr (Or.inr (Or.inl rfl)), Or.inl ⟨rfl, (pj_tb7 (k := 176) (by decide +kernel)), (pj_tk (k := 102) (by decide +kernel)), by decide⟩⟩⟩
theorem mo_218 : pj_okP 218 mt_218 := ⟨by decide, rfl, (pj_tb7 (k := 181) (by rfl)), (pj_tb1 (k := 17) (by decide +kernel)), by decide, by decide, by decide +kernel, by decide, rfl, ⟨Or.inr (Or.inr (Or.inr rfl)), Or.inl ⟨rfl, (pj_tb7 (k := 180) (by decide +kernel)), (pj_tk (k := 103) (by decide +kernel)), by decide⟩⟩⟩
theorem mo_219 : pj_okP 219 mt_219 := ⟨by decide, rfl, (pj_tb7 (k := 185) (by rfl)), (pj_tb1 (k := 17) (by decide +kernel)), by decide, by decide, by decide +kernel, by decide, rfl, ⟨Or.inr (Or.inr (Or.inl rfl)), Or.inl ⟨rfl, (pj_tb7 (k := 184) (by decide +kernel)), (pj_tk (k := 104) (by decide +kernel)), by decide⟩⟩⟩
theorem mo_220 : pj_okP 220 mt_220 := ⟨by decide, rfl, (pj_tb7 (k := 188) (by rfl)), (pj_tb1 (k := 17) (by decide +kernel)), by decide, by decide, by decide +kernel, by decide, rfl, ⟨Or.inr (Or.inr (Or.inl rfl)), Or.inr (Or.inl ⟨rfl, (pj_tb7 (k := 187) (by decide +kernel)), by decide⟩)⟩⟩
theorem mo_221 : pj_okP 221 mt_221 := ⟨by decide, rfl, (pj_tb7 (k := 191) (by rfl)), (pj_tb1 (k := 17) (by decide +kernel)), by decide, by decide, by decide +kernel, by decide, rfl, ⟨Or.inr (Or.inr (Or.inl rfl)), Or.inr (Or.inl ⟨rfl, (pj_tb7 (k := 190) (by decide +kernel)), by decide⟩)⟩⟩
theorem mo_222 : pj_okP 222 mt_222 := ⟨by decide, rfl, (pj_tb7 (k := 196) (by rfl)), (pj_tb1 (k := 17) (by decide +kernel)), by decide, by decide, by decide +kernel, by decide, rfl, ⟨Or.inr (Or.inr (Or.inl rfl)), Or.inr (Or.inl ⟨rfl, (pj_tb7 (k := 195) (by decide +kernel)), by decide⟩)⟩⟩
theorem mo_223 : pj_okP 223 mt_223 := ⟨by decide, rfl, (pj_tb7 (k := 201) (by rfl)), (pj_tb1 (k := 17) (by decide +kernel)), by decide, by decide, by decide +kernel, by decide, rfl, ⟨Or.inr (Or.inl rfl), Or.inl ⟨rfl, (pj_tb7 (k := 199) (by decide +kernel)), (pj_tb7 (k := 200) (by decide +kernel)), by decide⟩⟩⟩
theorem mo_224 : pj_okP 224 mt_224 := ⟨by decide, rfl, (pj_tb7 (k := 205) (by rfl)), (pj_tb1 (k := 17) (by decide +kernel)), by decide, by decide, by decide +kernel, by decide, rfl, ⟨Or.inr (Or.inr (Or.inr rfl)), Or.inl ⟨rfl, (pj_tb7 (k := 204) (by decide +kernel)), (pj_tk (k := 105) (by decide +kernel)), by decide⟩⟩⟩
theorem mo_225 : pj_okP 225 mt_225 := ⟨by decide, rfl, (pj_tb7 (k := 209) (by rfl)), (pj_tb1 (k := 17) (by decide +kernel)), by decide, by decide, by decide +kernel, by decide, rfl, ⟨Or.inl rfl, Or.inl ⟨rfl, (pj_tb7 (k := 208) (by decide +kernel)), (pj_tk (k := 106) (by decide +kernel)), by decide⟩⟩⟩
theorem mo_226 : pj_okP 226 mt_226 := ⟨by decide, rfl, (pj_tb7 (k := 213) (by rfl)), (pj_tb1 (k := 17) (by decide +kernel)), by decide, by decide, by decide +kernel, by decide, rfl, ⟨Or.inr (Or.inl rfl), Or.inl ⟨rfl, (pj_tb7 (k := 212) (by decide +kernel)), (pj_tk (k := 107) (by decide +kernel)), by decide⟩⟩⟩
theorem mo_227 : pj_okP 227 mt_227 := ⟨by decide, rfl, (pj_tb7 (k := 217) (by rfl)), (pj_tb1 (k := 17) (by decide +kernel)), by decide, by decide, by decide +kernel, by decide, rfl, ⟨Or.inl rfl, Or.inl ⟨rfl, (pj_tb7 (k := 216) (by decide +kernel)), (pj_tk (k := 108) (by decide +kernel)), by decide⟩⟩⟩
theorem mo_228 : pj_okP 228 mt_228 := ⟨by decide, rfl, (pj_tb7 (k := 222) (by rfl)), (pj_tb1 (k := 17) (by decide +kernel)), by decide, by decide, by decide +kernel, by decide, rfl, ⟨Or.inr (Or.inr (Or.inr rfl)), Or.inl ⟨rfl, (pj_tb7 (k := 221) (by decide +kernel)), (pj_tk (k := 109) (by decide +kernel)), by decide⟩⟩⟩
theorem mo_229 : pj_okP 229 mt_229 := ⟨by decide, rfl, (pj_tb7 (k := 226) (by rfl)), (pj_tb1 (k := 17) (by decide +kernel)), by decide, by decide, by decide +kernel, by decide, rfl, ⟨Or.inr (Or.inl rfl), Or.inl ⟨rfl, (pj_tb7 (k := 225) (by decide +kernel)), (pj_tk (k := 110) (by decide +kernel)), by decide⟩⟩⟩
theorem mo_230 : pj_okP 230 mt_230 := ⟨by decide, rfl, (pj_tb7 (k := 230) (by rfl)), (pj_tb1 (k := 17) (by decide +kernel)), by decide, by decide, by decide +kernel, by decide, rfl, ⟨Or.inl rfl, Or.inl ⟨rfl, (pj_tb7 (k := 229) (by decide +kernel)), (pj_tk (k := 111) (by decide +kernel)), by decide⟩⟩⟩
theorem mo_231 : pj_okP 231 mt_231 := ⟨by decide, rfl, (pj_tb7 (k := 234) (by rfl)), (pj_tb1 (k := 17) (by decide +kernel)), by decide, by decide, by decide +kernel, by decide, rfl, ⟨Or.inl rfl, Or.inl ⟨rfl, (pj_tb7 (k := 233) (by decide +kernel)), (pj_tk (k := 112) (by decide +kernel)), by decide⟩⟩⟩
theorem mo_232 : pj_okP 232 mt_232 := ⟨by decide, rfl, (pj_tb7 (k := 238) (by rfl)), (pj_tb1 (k := 17) (by decide +kernel)), by decide, by decide, by decide +kernel, by decide, rfl, ⟨Or.inr (Or.inl rfl), Or.inl ⟨rfl, (pj_tb7 (k := 236) (by decide +kernel)), (pj_tb7 (k := 237) (by decide +kernel)), by decide⟩⟩⟩
theorem mo_233 : pj_okP 233 mt_233 := ⟨by decide, rfl, (pj_tb8 (k := 2) (by rfl)), (pj_tb1 (k := 17) (by decide +kernel)), by decide, by decide, by decide +kernel, by decide, rfl, ⟨Or.inr (Or.inl rfl), Or.inl ⟨rfl, (pj_tb8 (k := 0) (by decide +kernel)), (pj_tb8 (k := 1) (by decide +kernel)), by decide⟩⟩⟩
theorem mo_234 : pj_okP 234 mt_234 := ⟨by decide, rfl, (pj_tb8 (k := 6) (by rfl)), (pj_tb1 (k := 17) (by decide +kernel)), by decide, by decide, by decide +kernel, by decide, rfl, ⟨Or.inr (Or.inr (Or.inr rfl)), Or.inl ⟨rfl, (pj_tb8 (k := 5) (by decide +kernel)), (pj_tk (k := 113) (by decide +kernel)), by decide⟩⟩⟩
theorem mo_235 : pj_okP 235 mt_235 := ⟨by decide, rfl, (pj_tb8 (k := 10) (by rfl)), (pj_tb1 (k := 17) (by decide +kernel)), by decide, by decide, by decide +kernel, by decide, rfl, ⟨Or.inr (Or.inl rfl), Or.inl ⟨rfl, (pj_tb8 (k := 8) (by decide +kernel)), (pj_tb8 (k := 9) (by decide +kernel)), by decide⟩⟩⟩
theorem mo_236 : pj_okP 236 mt_236 := ⟨by decide, rfl, (pj_tb8 (k := 13) (by rfl)), (pj_tb1 (k := 17) (by decide +kernel)), by decide, by decide, by decide +kernel, by decide, rfl, ⟨Or.inr (Or.inl rfl), Or.inr (Or.inl ⟨rfl, (pj_tb8 (k := 12) (by decide +kernel)), by decide⟩)⟩⟩
theorem mo_237 : pj_okP 237 mt_237 := ⟨by decide, rfl, (pj_tb8 (k := 17) (by rfl)), (pj_tb1 (k := 17) (by decide +kernel)), by decide, by decide, by decide +kernel, by decide, rfl, ⟨Or.inr (Or.inl rfl), Or.inl ⟨rfl, (pj_tb8 (k := 16) (by decide +kernel)), (pj_tk (k := 114) (by decide +kernel)), by decide⟩⟩⟩
theorem mo_238 : pj_okP 238 mt_238 := ⟨by decide, rfl, (pj_tb8 (k := 21) (by rfl)), (pj_tb1 (k := 17) (by decide +kernel)), by decide, by decide, by decide +kernel, by decide, rfl, ⟨Or.inr (Or.inl rfl), Or.inl ⟨rfl, (pj_tb8 (k := 19) (by decide +kernel)), (pj_tb8 (k := 20) (by decide +kernel)), by decide⟩⟩⟩
theorem mo_239 : pj_okP 239 mt_239 := ⟨by decide, rfl, (pj_tb8 (k := 25) (by rfl)), (pj_tb1 (k := 17) (by decide +kernel)), by decide, by decide, by decide +kernel, by decide, rfl, ⟨Or.inr (Or.inl rfl), Or.inl ⟨rfl, (pj_tb8 (k := 23) (by decide +kernel)), (pj_tb8 (k := 24) (by decide +kernel)), by decide⟩⟩⟩
theorem mo_240 : pj_okP 240 mt_240 := ⟨by decide, rfl, (pj_tb8 (k := 29) (by rfl)), (pj_tb1 (k := 17) (by decide +kernel)), by decide, by decide, by decide +kernel, by decide, rfl, ⟨Or.inr (Or.inr (Or.inr rfl)), Or.inl ⟨rfl, (pj_tb8 (k := 28) (by decide +kernel)), (pj_tk (k := 115) (by decide +kernel)), by decide⟩⟩⟩
theorem mo_241 : pj_okP 241 mt_241 := ⟨by decide, rfl, (pj_tb8 (k := 33) (by rfl)), (pj_tb1 (k := 17) (by decide +kernel)), by decide, by decide, by decide +kernel, by decide, rfl, ⟨Or.inl rfl, Or.inl ⟨rfl, (pj_tb8 (k := 32) (by decide +kernel)), (pj_tk (k := 116) (by decide +kernel)), by decide⟩⟩⟩
theorem mo_242 : pj_okP 242 mt_242 := ⟨by decide, rfl, (pj_tb8 (k := 37) (by rfl)), (pj_tb1 (k := 17) (by decide +kernel)), by decide, by decide, by decide +kernel, by decide, rfl, ⟨Or.inr (Or.inl rfl), Or.inl ⟨rfl, (pj_tb8 (k := 35) (by decide +kernel)), (pj_tb8 (k := 36) (by decide +kernel)), by decide⟩⟩⟩
theorem mo_243 : pj_okP 243 mt_243 := ⟨by decide, rfl, (pj_tb8 (k := 41) (by rfl)), (pj_tb1 (k := 17) (by decide +kernel)), by decide, by decide, by decide +kernel, by decide, rfl, ⟨Or.inr (Or.inl rfl), Or.inl ⟨rfl, (pj_tb8 (k := 39) (by decide +kernel)), (pj_tb8 (k := 40) (by decide +kernel)), by decide⟩⟩⟩
theorem mo_244 : pj_okP 244 mt_244 := ⟨by decide, rfl, (pj_tb8 (k := 45) (by rfl)), (pj_tb1 (k := 17) (by decide +kernel)), by decide, by decide, by decide +kernel, by decide, rfl, ⟨Or.inr (Or.inl rfl), Or.inl ⟨rfl, (pj_tb8 (k := 43) (by decide +kernel)), (pj_tb8 (k := 44) (by decide +kernel)), by decide⟩⟩⟩
theorem mo_245 : pj_okP 245 mt_245 := ⟨by decide, rfl, (pj_tb8 (k := 49) (by rfl)), (pj_tb1 (k := 17) (by decide +kernel)), by decide, by decide, by decide +kernel, by decide, rfl, ⟨Or.inr (Or.inl rfl), Or.inl ⟨rfl, (pj_tb8 (k := 47) (by decide +kernel)), (pj_tb8 (k := 48) (by decide +kernel)), by decide⟩⟩⟩
theorem mo_246 : pj_okP 246 mt_246 := ⟨by decide, rfl, (pj_tb8 (k := 53) (by rfl)), (pj_tb1 (k := 17) (by decide +kernel)), by decide, by decide, by decide +kernel, by decide, rfl, ⟨Or.inr (Or.inl rfl), Or.inl ⟨rfl, (pj_tb8 (k := 52) (by decide +kernel)), (pj_tk (k := 117) (by decide +kernel)), by decide⟩⟩⟩
theorem mo_247 : pj_okP 247 mt_247 := ⟨by decide, rfl, (pj_tb8 (k := 57) (by rfl)), (pj_tb1 (k := 17) (by decide +kernel)), by decide, by decide, by decide +kernel, by decide, rfl, ⟨Or.inr (Or.inl rfl), Or.inl ⟨rfl, (pj_tb8 (k := 55) (by decide +kernel)), (pj_tb8 (k := 56) (by decide +kernel)), by decide⟩⟩⟩
theorem mo_248 : pj_okP 248 mt_248 := ⟨by decide, rfl, (pj_tb8 (k := 62) (by rfl)), (pj_tb1 (k := 17) (by decide +kernel)), by decide, by decide, by decide +kernel, by decide, rfl, ⟨Or.inr (Or.inl rfl), Or.inl ⟨rfl, (pj_tb8 (k := 61) (by decide +kernel)), (pj_tk (k := 118) (by decide +kernel)), by decide⟩⟩⟩
theorem mo_249 : pj_okP 249 mt_249 := ⟨by decide, rfl, (pj_tb8 (k := 66) (by rfl)), (pj_tb1 (k := 17) (by decide +kernel)), by decide, by decide, by decide +kernel, by decide, rfl, ⟨Or.inr (Or.inl rfl), Or.inl ⟨rfl, (pj_tb8 (k := 64) (by decide +kernel)), (pj_tb8 (k := 65) (by decide +kernel)), by decide⟩⟩⟩
theorem mo_250 : pj_okP 250 mt_250 := ⟨by decide, rfl, (pj_tb8 (k := 70) (by rfl)), (pj_tb1 (k := 17) (by decide +kernel)), by decide, by decide, by decide +kernel, by decide, rfl, ⟨Or.inl rfl, Or.inl ⟨rfl, (pj_tb8 (k := 69) (by decide +kernel)), (pj_tk (k := 119) (by decide +kernel)), by decide⟩⟩⟩
theorem mo_251 : pj_okP 251 mt_251 := ⟨by decide, rfl, (pj_tb8 (k := 74) (by rfl)), (pj_tb1 (k := 17) (by decide +kernel)), by decide, by decide, by decide +kernel, by decide, rfl, ⟨Or.inr (Or.inl rfl), Or.inl ⟨rfl, (pj_tb8 (k := 72) (by decide +kernel)), (pj_tb8 (k := 73) (by decide +kernel)), by decide⟩⟩⟩
theorem mo_252 : pj_okP 252 mt_252 := ⟨by decide, rfl, (pj_tb8 (k := 78) (by rfl)), (pj_tb1 (k := 17) (by decide +kernel)), by decide, by decide, by decide +kernel, by decide, rfl, ⟨Or.inr (Or.inl rfl), Or.inl ⟨rfl, (pj_tb8 (k := 77) (by decide +kernel)), (pj_tk (k := 120) (by decide +kernel)), by decide⟩⟩⟩
theorem mo_253 : pj_okP 253 mt_253 := ⟨by decide, rfl, (pj_tb8 (k := 86) (by rfl)), (pj_tb1 (k := 17) (by decide +kernel)), by decide, by decide, by decide +kernel, by decide, rfl, ⟨Or.inr (Or.inl rfl), Or.inl ⟨rfl, (pj_tb8 (k := 85) (by decide +kernel)), (pj_tk (k := 121) (by decide +kernel)), by decide⟩⟩⟩
theorem mo_254 : pj_okP 254 mt_254 := ⟨by decide, rfl, (pj_tb8 (k := 90) (by rfl)), (pj_tb1 (k := 17) (by decide +kernel)), by decide, by decide, by decide +kernel, by decide, rfl, ⟨Or.inr (Or.inr (Or.inr rfl)), Or.inl ⟨rfl, (pj_tb8 (k := 88) (by decide +kernel)), (pj_tb8 (k := 89) (by decide +kernel)), by decide⟩⟩⟩
theorem mo_255 : pj_okP 255 mt_255 := ⟨by decide, rfl, (pj_tb8 (k := 94) (by rfl)), (pj_tb1 (k := 17) (by decide +kernel)), by decide, by decide, by decide +kernel, by decide, rfl, ⟨Or.inr (Or.inr (Or.inr rfl)), Or.inl ⟨rfl, (pj_tb8 (k := 92) (by decide +kernel)), (pj_tb8 (k := 93) (by decide +kernel)), by decide⟩⟩⟩
theorem mo_256 : pj_okP 256 mt_256 := ⟨by decide, rfl, (pj_tb8 (k := 98) (by rfl)), (pj_tb1 (k := 17) (by decide +kernel)), by decide, by decide, by decide +kernel, by decide, rfl, ⟨Or.inr (Or.inr (Or.inr rfl)), Or.inl ⟨rfl, (pj_tb8 (k := 96) (by decide +kernel)), (pj_tb8 (k := 97) (by decide +kernel)), by decide⟩⟩⟩
theorem mo_257 : pj_okP 257 mt_257 := ⟨by decide, rfl, (pj_tb8 (k := 102) (by rfl)), (pj_tb1 (k := 17) (by decide +kernel)), by decide, by decide, by decide +kernel, by decide, rfl, ⟨Or.inr (Or.inr (Or.inr rfl)), Or.inl ⟨rfl, (pj_tb8 (k := 100) (by decide +kernel)), (pj_tb8 (k := 101) (by decide +kernel)), by decide⟩⟩⟩
theorem mo_258 : pj_okP 258 mt_258 := ⟨by decide, rfl, (pj_tb8 (k := 106) (by rfl)), (pj_tb1 (k := 17) (by decide +kernel)), by decide, by decide, by decide +kernel, by decide, rfl, ⟨Or.inr (Or.inl rfl), Or.inl ⟨rfl, (pj_tb8 (k := 104) (by decide +kernel)), (pj_tb8 (k := 105) (by decide +kernel)), by decide⟩⟩⟩
theorem mo_259 : pj_okP 259 mt_259 := ⟨by decide, rfl, (pj_tb8 (k := 110) (by rfl)), (pj_tb1 (k := 17) (by decide +kernel)), by decide, by decide, by decide +kernel, by decide, rfl, ⟨Or.inr (Or.inl rfl), Or.inl ⟨rfl, (pj_tb8 (k := 108) (by decide +kernel)), (pj_tb8 (k := 109) (by decide +kernel)), by decide⟩⟩⟩
theorem mo_260 : pj_okP 260 mt_260 := ⟨by decide, rfl, (pj_tb8 (k := 114) (by rfl)), (pj_tb1 (k := 17) (by decide +kernel)), by decide, by decide, by decide +kernel, by decide, rfl, ⟨Or.inl rfl, Or.inl ⟨rfl, (pj_tb8 (k := 113) (by decide +kernel)), (pj_tk (k := 122) (by decide +kernel)), by decide⟩⟩⟩
theorem mo_261 : pj_okP 261 mt_261 := ⟨by decide, rfl, (pj_tb8 (k := 118) (by rfl)), (pj_tb1 (k := 17) (by decide +kernel)), by decide, by decide, by decide +kernel, by decide, rfl, ⟨Or.inr (Or.inl rfl), Or.inl ⟨rfl, (pj_tb8 (k := 116) (by decide +kernel)), (pj_tb8 (k := 117) (by decide +kernel)), by decide⟩⟩⟩
theorem mo_262 : pj_okP 262 mt_262 := ⟨by decide, rfl, (pj_tb8 (k := 122) (by rfl)), (pj_tb1 (k := 17) (by decide +kernel)), by decide, by decide, by decide +kernel, by decide, rfl, ⟨Or.inr (Or.inr (Or.inr rfl)), Or.inl ⟨rfl, (pj_tb8 (k := 120) (by decide +kernel)), (pj_tb8 (k := 121) (by decide +kernel)), by decide⟩⟩⟩
theorem mo_263 : pj_okP 263 mt_263 := ⟨by decide, rfl, (pj_tb8 (k := 126) (by rfl)), (pj_tb1 (k := 17) (by decide +kernel)), by decide, by decide, by decide +kernel, by decide, rfl, ⟨Or.inr (Or.inr (Or.inr rfl)), Or.inl ⟨rfl, (pj_tb8 (k := 125) (by decide +kernel)), (pj_tk (k := 123) (by decide +kernel)), by decide⟩⟩⟩
theorem mo_264 : pj_okP 264 mt_264 := ⟨by decide, rfl, (pj_tb8 (k := 130) (by rfl)), (pj_tb1 (k := 17) (by decide +kernel)), by decide, by decide, by decide +kernel, by decide, rfl, ⟨Or.inr (Or.inr (Or.inr rfl)), Or.inl ⟨rfl, (pj_tb8 (k := 129) (by decide +kernel)), (pj_tk (k := 124) (by decide +kernel)), by decide⟩⟩⟩
theorem pj_okAll {k : Nat} {t : pj_T} (h0 : k ≠ 0) (h : tm k = some t) : pj_okP k t := by
  have hk : k < 265 := by
    rcases Nat.lt_or_ge k 265 with q | q
    · exact q
    · exfalso
      unfold tm at h
      rw [show Nat.blt k 265 = false by rw [← Bool.not_eq_true, Nat.blt_eq]; omega] at h
      cases h
  by_cases h1_265 : k < 133
  · by_cases h1_133 : k < 67
    · by_cases h1_67 : k < 34
      · by_cases h1_34 : k < 17
        · by_cases h1_17 : k < 9
          · by_cases h1_9 : k < 5
            · by_cases h1_5 : k < 3
              · by_cases h1_3 : k < 2
                · obtain rfl : k = 1 := by omega
                  obtain rfl : mt_1 = t := Option.some.inj h
                  exact mo_1
                · obtain rfl : k = 2 := by omega
                  obtain rfl : mt_2 = t := Option.some.inj h
                  exact mo_2
              · by_cases h3_5 : k < 4
                · obtain rfl : k = 3 := by omega
                  obtain rfl : mt_3 = t := Option.some.inj h
                  exact mo_3
                · obtain rfl : k = 4 := by omega
                  obtain rfl : mt_4 = t := Option.some.inj h
                  exact mo_4
            · by_cases h5_9 : k < 7
              · by_cases h5_7 : k < 6
                · obtain rfl : k = 5 := by omega
                  obtain rfl : mt_5 = t := Option.some.inj h
                  exact mo_5
                · obtain rfl : k = 6 := by omega
                  obtain rfl : mt_6 = t := Option.some.inj h
                  exact mo_6
              · by_cases h7_9 : k < 8
                · obtain rfl : k = 7 := by omega
                  obtain rfl : mt_7 = t := Option.some.inj h
                  exact mo_7
                · obtain rfl : k = 8 := by omega
                  obtain rfl : mt_8 = t := Option.some.inj h
                  exact mo_8
          · by_cases h9_17 : k < 13
            · by_cases h9_13 : k < 11
              · by_cases h9_11 : k < 10
                · obtain rfl : k = 9 := by omega
                  obtain rfl : mt_9 = t := Option.some.inj h
                  exact mo_9
                · obtain rfl : k = 10 := by omega
                  obtain rfl : mt_10 = t := Option.some.inj h
                  exact mo_10
              · by_cases h11_13 : k < 12
                · obtain rfl : k = 11 := by omega
                  obtain rfl : mt_11 = t := Option.some.inj h
                  exact mo_11
                · obtain rfl : k = 12 := by omega
                  obtain rfl : mt_12 = t := Option.some.inj h
                  exact mo_12
            · by_cases h13_17 : k < 15
              · by_cases h13_15 : k < 14
                · obtain rfl : k = 13 := by omega
                  obtain rfl : mt_13 = t := Option.some.inj h
                  exact mo_13
                · obtain rfl : k = 14 := by omega
                  obtain rfl : mt_14 = t := Option.some.inj h
                  exact mo_14
              · by_cases h15_17 : k < 16
                · obtain rfl : k = 15 := by omega
                  obtain rfl : mt_15 = t := Option.some.inj h
                  exact mo_15
                · obtain rfl : k = 16 := by omega
                  obtain rfl : mt_16 = t := Option.some.inj h
                  exact mo_16
        · by_cases h17_34 : k < 25
          · by_cases h17_25 : k < 21
            · by_cases h17_21 : k < 19
              · by_cases h17_19 : k < 18
                · obtain rfl : k = 17 := by omega
                  obtain rfl : mt_17 = t := Option.some.inj h
                  exact mo_17
                · obtain rfl : k = 18 := by omega
                  obtain rfl : mt_18 = t := Option.some.inj h
                  exact mo_18
              · by_cases h19_21 : k < 20
                · obtain rfl : k = 19 := by omega
                  obtain rfl : mt_19 = t := Option.some.inj h
                  exact mo_19
                · obtain rfl : k = 20 := by omega
                  obtain rfl : mt_20 = t := Option.some.inj h
                  exact mo_20
            · by_cases h21_25 : k < 23
              · by_cases h21_23 : k < 22
                · obtain rfl : k = 21 := by omega
                  obtain rfl : mt_21 = t := Option.some.inj h
                  exact mo_21
                · obtain rfl : k = 22 := by omega
                  obtain rfl : mt_22 = t := Option.some.inj h
                  exact mo_22
              · by_cases h23_25 : k < 24
                · obtain rfl : k = 23 := by omega
                  obtain rfl : mt_23 = t := Option.some.inj h
                  exact mo_23
                · obtain rfl : k = 24 := by omega
                  obtain rfl : mt_24 = t := Option.some.inj h
                  exact mo_24
          · by_cases h25_34 : k < 29
            · by_cases h25_29 : k < 27
              · by_cases h25_27 : k < 26
                · obtain rfl : k = 25 := by omega
                  obtain rfl : mt_25 = t := Option.some.inj h
                  exact mo_25
                · obtain rfl : k = 26 := by omega
                  obtain rfl : mt_26 = t := Option.some.inj h
                  exact mo_26
              · by_cases h27_29 : k < 28
                · obtain rfl : k = 27 := by omega
                  obtain rfl : mt_27 = t := Option.some.inj h
                  exact mo_27
                · obtain rfl : k = 28 := by omega
                  obtain rfl : mt_28 = t := Option.some.inj h
                  exact mo_28
            · by_cases h29_34 : k < 31
              · by_cases h29_31 : k < 30
                · obtain rfl : k = 29 := by omega
                  obtain rfl : mt_29 = t := Option.some.inj h
                  exact mo_29
                · obtain rfl : k = 30 := by omega
                  obtain rfl : mt_30 = t := Option.some.inj h
                  exact mo_30
              · by_cases h31_34 : k < 32
                · obtain rfl : k = 31 := by omega
                  obtain rfl : mt_31 = t := Option.some.inj h
                  exact mo_31
                · by_cases h32_34 : k < 33
                  · obtain rfl : k = 32 := by omega
                    obtain rfl : mt_32 = t := Option.some.inj h
                    exact mo_32
                  · obtain rfl : k = 33 := by omega
                    obtain rfl : mt_33 = t := Option.some.inj h
                    exact mo_33
      · by_cases h34_67 : k < 50
        · by_cases h34_50 : k < 42
          · by_cases h34_42 : k < 38
            · by_cases h34_38 : k < 36
              · by_cases h34_36 : k < 35
                · obtain rfl : k = 34 := by omega
                  obtain rfl : mt_34 = t := Option.some.inj h
                  exact mo_34
                · obtain rfl : k = 35 := by omega
                  obtain rfl : mt_35 = t := Option.some.inj h
                  exact mo_35
              · by_cases h36_38 : k < 37
                · obtain rfl : k = 36 := by omega
                  obtain rfl : mt_36 = t := Option.some.inj h
                  exact mo_36
                · obtain rfl : k = 37 := by omega
                  obtain rfl : mt_37 = t := Option.some.inj h
                  exact mo_37
            · by_cases h38_42 : k < 40
              · by_cases h38_40 : k < 39
                · obtain rfl : k = 38 := by omega
                  obtain rfl : mt_38 = t := Option.some.inj h
                  exact mo_38
                · obtain rfl : k = 39 := by omega
                  obtain rfl : mt_39 = t := Option.some.inj h
                  exact mo_39
              · by_cases h40_42 : k < 41
                · obtain rfl : k = 40 := by omega
                  obtain rfl : mt_40 = t := Option.some.inj h
                  exact mo_40
                · obtain rfl : k = 41 := by omega
                  obtain rfl : mt_41 = t := Option.some.inj h
                  exact mo_41
          · by_cases h42_50 : k < 46
            · by_cases h42_46 : k < 44
              · by_cases h42_44 : k < 43
                · obtain rfl : k = 42 := by omega
                  obtain rfl : mt_42 = t := Option.some.inj h
                  exact mo_42
                · obtain rfl : k = 43 := by omega
                  obtain rfl : mt_43 = t := Option.some.inj h
                  exact mo_43
              · by_cases h44_46 : k < 45
                · obtain rfl : k = 44 := by omega
                  obtain rfl : mt_44 = t := Option.some.inj h
                  exact mo_44
                · obtain rfl : k = 45 := by omega
                  obtain rfl : mt_45 = t := Option.some.inj h
                  exact mo_45
            · by_cases h46_50 : k < 48
              · by_cases h46_48 : k < 47
                · obtain rfl : k = 46 := by omega
                  obtain rfl : mt_46 = t := Option.some.inj h
                  exact mo_46
                · obtain rfl : k = 47 := by omega
                  obtain rfl : mt_47 = t := Option.some.inj h
                  exact mo_47
              · by_cases h48_50 : k < 49
                · obtain rfl : k = 48 := by omega
                  obtain rfl : mt_48 = t := Option.some.inj h
                  exact mo_48
                · obtain rfl : k = 49 := by omega
                  obtain rfl : mt_49 = t := Option.some.inj h
                  exact mo_49
        · by_cases h50_67 : k < 58
          · by_cases h50_58 : k < 54
            · by_cases h50_54 : k < 52
              · by_cases h50_52 : k < 51
                · obtain rfl : k = 50 := by omega
                  obtain rfl : mt_50 = t := Option.some.inj h
                  exact mo_50
                · obtain rfl : k = 51 := by omega
                  obtain rfl : mt_51 = t := Option.some.inj h
                  exact mo_51
              · by_cases h52_54 : k < 53
                · obtain rfl : k = 52 := by omega
                  obtain rfl : mt_52 = t := Option.some.inj h
                  exact mo_52
                · obtain rfl : k = 53 := by omega
                  obtain rfl : mt_53 = t := Option.some.inj h
                  exact mo_53
            · by_cases h54_58 : k < 56
              · by_cases h54_56 : k < 55
                · obtain rfl : k = 54 := by omega
                  obtain rfl : mt_54 = t := Option.some.inj h
                  exact mo_54
                · obtain rfl : k = 55 := by omega
                  obtain rfl : mt_55 = t := Option.some.inj h
                  exact mo_55
              · by_cases h56_58 : k < 57
                · obtain rfl : k = 56 := by omega
                  obtain rfl : mt_56 = t := Option.some.inj h
                  exact mo_56
                · obtain rfl : k = 57 := by omega
                  obtain rfl : mt_57 = t := Option.some.inj h
                  exact mo_57
          · by_cases h58_67 : k < 62
            · by_cases h58_62 : k < 60
              · by_cases h58_60 : k < 59
                · obtain rfl : k = 58 := by omega
                  obtain rfl : mt_58 = t := Option.some.inj h
                  exact mo_58
                · obtain rfl : k = 59 := by omega
                  obtain rfl : mt_59 = t := Option.some.inj h
                  exact mo_59
              · by_cases h60_62 : k < 61
                · obtain rfl : k = 60 := by omega
                  obtain rfl : mt_60 = t := Option.some.inj h
                  exact mo_60
                · obtain rfl : k = 61 := by omega
                  obtain rfl : mt_61 = t := Option.some.inj h
                  exact mo_61
            · by_cases h62_67 : k < 64
              · by_cases h62_64 : k < 63
                · obtain rfl : k = 62 := by omega
                  obtain rfl : mt_62 = t := Option.some.inj h
                  exact mo_62
                · obtain rfl : k = 63 := by omega
                  obtain rfl : mt_63 = t := Option.some.inj h
                  exact mo_63
              · by_cases h64_67 : k < 65
                · obtain rfl : k = 64 := by omega
                  obtain rfl : mt_64 = t := Option.some.inj h
                  exact mo_64
                · by_cases h65_67 : k < 66
                  · obtain rfl : k = 65 := by omega
                    obtain rfl : mt_65 = t := Option.some.inj h
                    exact mo_65
                  · obtain rfl : k = 66 := by omega
                    obtain rfl : mt_66 = t := Option.some.inj h
                    exact mo_66
    · by_cases h67_133 : k < 100
      · by_cases h67_100 : k < 83
        · by_cases h67_83 : k < 75
          · by_cases h67_75 : k < 71
            · by_cases h67_71 : k < 69
              · by_cases h67_69 : k < 68
                · obtain rfl : k = 67 := by omega
                  obtain rfl : mt_67 = t := Option.some.inj h
                  exact mo_67
                · obtain rfl : k = 68 := by omega
                  obtain rfl : mt_68 = t := Option.some.inj h
                  exact mo_68
              · by_cases h69_71 : k < 70
                · obtain rfl : k = 69 := by omega
                  obtain rfl : mt_69 = t := Option.some.inj h
                  exact mo_69
                · obtain rfl : k = 70 := by omega
                  obtain rfl : mt_70 = t := Option.some.inj h
                  exact mo_70
            · by_cases h71_75 : k < 73
              · by_cases h71_73 : k < 72
                · obtain rfl : k = 71 := by omega
                  obtain rfl : mt_71 = t := Option.some.inj h
                  exact mo_71
                · obtain rfl : k = 72 := by omega
                  obtain rfl : mt_72 = t := Option.some.inj h
                  exact mo_72
              · by_cases h73_75 : k < 74
                · obtain rfl : k = 73 := by omega
                  obtain rfl : mt_73 = t := Option.some.inj h
                  exact mo_73
                · obtain rfl : k = 74 := by omega
                  obtain rfl : mt_74 = t := Option.some.inj h
                  exact mo_74
          · by_cases h75_83 : k < 79
            · by_cases h75_79 : k < 77
              · by_cases h75_77 : k < 76
                · obtain rfl : k = 75 := by omega
                  obtain rfl : mt_75 = t := Option.some.inj h
                  exact mo_75
                · obtain rfl : k = 76 := by omega
                  obtain rfl : mt_76 = t := Option.some.inj h
                  exact mo_76
              · by_cases h77_79 : k < 78
                · obtain rfl : k = 77 := by omega
                  obtain rfl : mt_77 = t := Option.some.inj h
                  exact mo_77
                · obtain rfl : k = 78 := by omega
                  obtain rfl : mt_78 = t := Option.some.inj h
                  exact mo_78
            · by_cases h79_83 : k < 81
              · by_cases h79_81 : k < 80
                · obtain rfl : k = 79 := by omega
                  obtain rfl : mt_79 = t := Option.some.inj h
                  exact mo_79
                · obtain rfl : k = 80 := by omega
                  obtain rfl : mt_80 = t := Option.some.inj h
                  exact mo_80
              · by_cases h81_83 : k < 82
                · obtain rfl : k = 81 := by omega
                  obtain rfl : mt_81 = t := Option.some.inj h
                  exact mo_81
                · obtain rfl : k = 82 := by omega
                  obtain rfl : mt_82 = t := Option.some.inj h
                  exact mo_82
        · by_cases h83_100 : k < 91
          · by_cases h83_91 : k < 87
            · by_cases h83_87 : k < 85
              · by_cases h83_85 : k < 84
                · obtain rfl : k = 83 := by omega
                  obtain rfl : mt_83 = t := Option.some.inj h
                  exact mo_83
                · obtain rfl : k = 84 := by omega
                  obtain rfl : mt_84 = t := Option.some.inj h
                  exact mo_84
              · by_cases h85_87 : k < 86
                · obtain rfl : k = 85 := by omega
                  obtain rfl : mt_85 = t := Option.some.inj h
                  exact mo_85
                · obtain rfl : k = 86 := by omega
                  obtain rfl : mt_86 = t := Option.some.inj h
                  exact mo_86
            · by_cases h87_91 : k < 89
              · by_cases h87_89 : k < 88
                · obtain rfl : k = 87 := by omega
                  obtain rfl : mt_87 = t := Option.some.inj h
                  exact mo_87
                · obtain rfl : k = 88 := by omega
                  obtain rfl : mt_88 = t := Option.some.inj h
                  exact mo_88
              · by_cases h89_91 : k < 90
                · obtain rfl : k = 89 := by omega
                  obtain rfl : mt_89 = t := Option.some.inj h
                  exact mo_89
                · obtain rfl : k = 90 := by omega
                  obtain rfl : mt_90 = t := Option.some.inj h
                  exact mo_90
          · by_cases h91_100 : k < 95
            · by_cases h91_95 : k < 93
              · by_cases h91_93 : k < 92
                · obtain rfl : k = 91 := by omega
                  obtain rfl : mt_91 = t := Option.some.inj h
                  exact mo_91
                · obtain rfl : k = 92 := by omega
                  obtain rfl : mt_92 = t := Option.some.inj h
                  exact mo_92
              · by_cases h93_95 : k < 94
                · obtain rfl : k = 93 := by omega
                  obtain rfl : mt_93 = t := Option.some.inj h
                  exact mo_93
                · obtain rfl : k = 94 := by omega
                  obtain rfl : mt_94 = t := Option.some.inj h
                  exact mo_94
            · by_cases h95_100 : k < 97
              · by_cases h95_97 : k < 96
                · obtain rfl : k = 95 := by omega
                  obtain rfl : mt_95 = t := Option.some.inj h
                  exact mo_95
                · obtain rfl : k = 96 := by omega
                  obtain rfl : mt_96 = t := Option.some.inj h
                  exact mo_96
              · by_cases h97_100 : k < 98
                · obtain rfl : k = 97 := by omega
                  obtain rfl : mt_97 = t := Option.some.inj h
                  exact mo_97
                · by_cases h98_100 : k < 99
                  · obtain rfl : k = 98 := by omega
                    obtain rfl : mt_98 = t := Option.some.inj h
                    exact mo_98
                  · obtain rfl : k = 99 := by omega
                    obtain rfl : mt_99 = t := Option.some.inj h
                    exact mo_99
      · by_cases h100_133 : k < 116
        · by_cases h100_116 : k < 108
          · by_cases h100_108 : k < 104
            · by_cases h100_104 : k < 102
              · by_cases h100_102 : k < 101
                · obtain rfl : k = 100 := by omega
                  obtain rfl : mt_100 = t := Option.some.inj h
                  exact mo_100
                · obtain rfl : k = 101 := by omega
                  obtain rfl : mt_101 = t := Option.some.inj h
                  exact mo_101
              · by_cases h102_104 : k < 103
                · obtain rfl : k = 102 := by omega
                  obtain rfl : mt_102 = t := Option.some.inj h
                  exact mo_102
                · obtain rfl : k = 103 := by omega
                  obtain rfl : mt_103 = t := Option.some.inj h
                  exact mo_103
            · by_cases h104_108 : k < 106
              · by_cases h104_106 : k < 105
                · obtain rfl : k = 104 := by omega
                  obtain rfl : mt_104 = t := Option.some.inj h
                  exact mo_104
                · obtain rfl : k = 105 := by omega
                  obtain rfl : mt_105 = t := Option.some.inj h
                  exact mo_105
              · by_cases h106_108 : k < 107
                · obtain rfl : k = 106 := by omega
                  obtain rfl : mt_106 = t := Option.some.inj h
                  exact mo_106
                · obtain rfl : k = 107 := by omega
                  obtain rfl : mt_107 = t := Option.some.inj h
                  exact mo_107
          · by_cases h108_116 : k < 112
            · by_cases h108_112 : k < 110
              · by_cases h108_110 : k < 109
                · obtain rfl : k = 108 := by omega
                  obtain rfl : mt_108 = t := Option.some.inj h
                  exact mo_108
                · obtain rfl : k = 109 := by omega
                  obtain rfl : mt_109 = t := Option.some.inj h
                  exact mo_109
              · by_cases h110_112 : k < 111
                · obtain rfl : k = 110 := by omega
                  obtain rfl : mt_110 = t := Option.some.inj h
                  exact mo_110
                · obtain rfl : k = 111 := by omega
                  obtain rfl : mt_111 = t := Option.some.inj h
                  exact mo_111
            · by_cases h112_116 : k < 114
              · by_cases h112_114 : k < 113
                · obtain rfl : k = 112 := by omega
                  obtain rfl : mt_112 = t := Option.some.inj h
                  exact mo_112
                · obtain rfl : k = 113 := by omega
                  obtain rfl : mt_113 = t := Option.some.inj h
                  exact mo_113
              · by_cases h114_116 : k < 115
                · obtain rfl : k = 114 := by omega
                  obtain rfl : mt_114 = t := Option.some.inj h
                  exact mo_114
                · obtain rfl : k = 115 := by omega
                  obtain rfl : mt_115 = t := Option.some.inj h
                  exact mo_115
        · by_cases h116_133 : k < 124
          · by_cases h116_124 : k < 120
            · by_cases h116_120 : k < 118
              · by_cases h116_118 : k < 117
                · obtain rfl : k = 116 := by omega
                  obtain rfl : mt_116 = t := Option.some.inj h
                  exact mo_116
                · obtain rfl : k = 117 := by omega
                  obtain rfl : mt_117 = t := Option.some.inj h
                  exact mo_117
              · by_cases h118_120 : k < 119
                · obtain rfl : k = 118 := by omega
                  obtain rfl : mt_118 = t := Option.some.inj h
                  exact mo_118
                · obtain rfl : k = 119 := by omega
                  obtain rfl : mt_119 = t := Option.some.inj h
                  exact mo_119
            · by_cases h120_124 : k < 122
              · by_cases h120_122 : k < 121
                · obtain rfl : k = 120 := by omega
                  obtain rfl : mt_120 = t := Option.some.inj h
                  exact mo_120
                · obtain rfl : k = 121 := by omega
                  obtain rfl : mt_121 = t := Option.some.inj h
                  exact mo_121
              · by_cases h122_124 : k < 123
                · obtain rfl : k = 122 := by omega
                  obtain rfl : mt_122 = t := Option.some.inj h
                  exact mo_122
                · obtain rfl : k = 123 := by omega
                  obtain rfl : mt_123 = t := Option.some.inj h
                  exact mo_123
          · by_cases h124_133 : k < 128
            · by_cases h124_128 : k < 126
              · by_cases h124_126 : k < 125
                · obtain rfl : k = 124 := by omega
                  obtain rfl : mt_124 = t := Option.some.inj h
                  exact mo_124
                · obtain rfl : k = 125 := by omega
                  obtain rfl : mt_125 = t := Option.some.inj h
                  exact mo_125
              · by_cases h126_128 : k < 127
                · obtain rfl : k = 126 := by omega
                  obtain rfl : mt_126 = t := Option.some.inj h
                  exact mo_126
                · obtain rfl : k = 127 := by omega
                  obtain rfl : mt_127 = t := Option.some.inj h
                  exact mo_127
            · by_cases h128_133 : k < 130
              · by_cases h128_130 : k < 129
                · obtain rfl : k = 128 := by omega
                  obtain rfl : mt_128 = t := Option.some.inj h
                  exact mo_128
                · obtain rfl : k = 129 := by omega
                  obtain rfl : mt_129 = t := Option.some.inj h
                  exact mo_129
              · by_cases h130_133 : k < 131
                · obtain rfl : k = 130 := by omega
                  obtain rfl : mt_130 = t := Option.some.inj h
                  exact mo_130
                · by_cases h131_133 : k < 132
                  · obtain rfl : k = 131 := by omega
                    obtain rfl : mt_131 = t := Option.some.inj h
                    exact mo_131
                  · obtain rfl : k = 132 := by omega
                    obtain rfl : mt_132 = t := Option.some.inj h
                    exact mo_132
  · by_cases h133_265 : k < 199
    · by_cases h133_199 : k < 166
      · by_cases h133_166 : k < 149
        · by_cases h133_149 : k < 141
          · by_cases h133_141 : k < 137
            · by_cases h133_137 : k < 135
              · by_cases h133_135 : k < 134
                · obtain rfl : k = 133 := by omega
                  obtain rfl : mt_133 = t := Option.some.inj h
                  exact mo_133
                · obtain rfl : k = 134 := by omega
                  obtain rfl : mt_134 = t := Option.some.inj h
                  exact mo_134
              · by_cases h135_137 : k < 136
                · obtain rfl : k = 135 := by omega
                  obtain rfl : mt_135 = t := Option.some.inj h
                  exact mo_135
                · obtain rfl : k = 136 := by omega
                  obtain rfl : mt_136 = t := Option.some.inj h
                  exact mo_136
            · by_cases h137_141 : k < 139
              · by_cases h137_139 : k < 138
                · obtain rfl : k = 137 := by omega
                  obtain rfl : mt_137 = t := Option.some.inj h
                  exact mo_137
                · obtain rfl : k = 138 := by omega
                  obtain rfl : mt_138 = t := Option.some.inj h
                  exact mo_138
              · by_cases h139_141 : k < 140
                · obtain rfl : k = 139 := by omega
                  obtain rfl : mt_139 = t := Option.some.inj h
                  exact mo_139
                · obtain rfl : k = 140 := by omega
                  obtain rfl : mt_140 = t := Option.some.inj h
                  exact mo_140
          · by_cases h141_149 : k < 145
            · by_cases h141_145 : k < 143
              · by_cases h141_143 : k < 142
                · obtain rfl : k = 141 := by omega
                  obtain rfl : mt_141 = t := Option.some.inj h
                  exact mo_141
                · obtain rfl : k = 142 := by omega
                  obtain rfl : mt_142 = t := Option.some.inj h
                  exact mo_142
              · by_cases h143_145 : k < 144
                · obtain rfl : k = 143 := by omega
                  obtain rfl : mt_143 = t := Option.some.inj h
                  exact mo_143
                · obtain rfl : k = 144 := by omega
                  obtain rfl : mt_144 = t := Option.some.inj h
                  exact mo_144
            · by_cases h145_149 : k < 147
              · by_cases h145_147 : k < 146
                · obtain rfl : k = 145 := by omega
                  obtain rfl : mt_145 = t := Option.some.inj h
                  exact mo_145
                · obtain rfl : k = 146 := by omega
                  obtain rfl : mt_146 = t := Option.some.inj h
                  exact mo_146
              · by_cases h147_149 : k < 148
                · obtain rfl : k = 147 := by omega
                  obtain rfl : mt_147 = t := Option.some.inj h
                  exact mo_147
                · obtain rfl : k = 148 := by omega
                  obtain rfl : mt_148 = t := Option.some.inj h
                  exact mo_148
        · by_cases h149_166 : k < 157
          · by_cases h149_157 : k < 153
            · by_cases h149_153 : k < 151
              · by_cases h149_151 : k < 150
                · obtain rfl : k = 149 := by omega
                  obtain rfl : mt_149 = t := Option.some.inj h
                  exact mo_149
                · obtain rfl : k = 150 := by omega
                  obtain rfl : mt_150 = t := Option.some.inj h
                  exact mo_150
              · by_cases h151_153 : k < 152
                · obtain rfl : k = 151 := by omega
                  obtain rfl : mt_151 = t := Option.some.inj h
                  exact mo_151
                · obtain rfl : k = 152 := by omega
                  obtain rfl : mt_152 = t := Option.some.inj h
                  exact mo_152
            · by_cases h153_157 : k < 155
              · by_cases h153_155 : k < 154
                · obtain rfl : k = 153 := by omega
                  obtain rfl : mt_153 = t := Option.some.inj h
                  exact mo_153
                · obtain rfl : k = 154 := by omega
                  obtain rfl : mt_154 = t := Option.some.inj h
                  exact mo_154
              · by_cases h155_157 : k < 156
                · obtain rfl : k = 155 := by omega
                  obtain rfl : mt_155 = t := Option.some.inj h
                  exact mo_155
                · obtain rfl : k = 156 := by omega
                  obtain rfl : mt_156 = t := Option.some.inj h
                  exact mo_156
          · by_cases h157_166 : k < 161
            · by_cases h157_161 : k < 159
              · by_cases h157_159 : k < 158
                · obtain rfl : k = 157 := by omega
                  obtain rfl : mt_157 = t := Option.some.inj h
                  exact mo_157
                · obtain rfl : k = 158 := by omega
                  obtain rfl : mt_158 = t := Option.some.inj h
                  exact mo_158
              · by_cases h159_161 : k < 160
                · obtain rfl : k = 159 := by omega
                  obtain rfl : mt_159 = t := Option.some.inj h
                  exact mo_159
                · obtain rfl : k = 160 := by omega
                  obtain rfl : mt_160 = t := Option.some.inj h
                  exact mo_160
            · by_cases h161_166 : k < 163
              · by_cases h161_163 : k < 162
                · obtain rfl : k = 161 := by omega
                  obtain rfl : mt_161 = t := Option.some.inj h
                  exact mo_161
                · obtain rfl : k = 162 := by omega
                  obtain rfl : mt_162 = t := Option.some.inj h
                  exact mo_162
              · by_cases h163_166 : k < 164
                · obtain rfl : k = 163 := by omega
                  obtain rfl : mt_163 = t := Option.some.inj h
                  exact mo_163
                · by_cases h164_166 : k < 165
                  · obtain rfl : k = 164 := by omega
                    obtain rfl : mt_164 = t := Option.some.inj h
                    exact mo_164
                  · obtain rfl : k = 165 := by omega
                    obtain rfl : mt_165 = t := Option.some.inj h
                    exact mo_165
      · by_cases h166_199 : k < 182
        · by_cases h166_182 : k < 174
          · by_cases h166_174 : k < 170
            · by_cases h166_170 : k < 168
              · by_cases h166_168 : k < 167
                · obtain rfl : k = 166 := by omega
                  obtain rfl : mt_166 = t := Option.some.inj h
                  exact mo_166
                · obtain rfl : k = 167 := by omega
                  obtain rfl : mt_167 = t := Option.some.inj h
                  exact mo_167
              · by_cases h168_170 : k < 169
                · obtain rfl : k = 168 := by omega
                  obtain rfl : mt_168 = t := Option.some.inj h
                  exact mo_168
                · obtain rfl : k = 169 := by omega
                  obtain rfl : mt_169 = t := Option.some.inj h
                  exact mo_169
            · by_cases h170_174 : k < 172
              · by_cases h170_172 : k < 171
                · obtain rfl : k = 170 := by omega
                  obtain rfl : mt_170 = t := Option.some.inj h
                  exact mo_170
                · obtain rfl : k = 171 := by omega
                  obtain rfl : mt_171 = t := Option.some.inj h
                  exact mo_171
              · by_cases h172_174 : k < 173
                · obtain rfl : k = 172 := by omega
                  obtain rfl : mt_172 = t := Option.some.inj h
                  exact mo_172
                · obtain rfl : k = 173 := by omega
                  obtain rfl : mt_173 = t := Option.some.inj h
                  exact mo_173
          · by_cases h174_182 : k < 178
            · by_cases h174_178 : k < 176
              · by_cases h174_176 : k < 175
                · obtain rfl : k = 174 := by omega
                  obtain rfl : mt_174 = t := Option.some.inj h
                  exact mo_174
                · obtain rfl : k = 175 := by omega
                  obtain rfl : mt_175 = t := Option.some.inj h
                  exact mo_175
              · by_cases h176_178 : k < 177
                · obtain rfl : k = 176 := by omega
                  obtain rfl : mt_176 = t := Option.some.inj h
                  exact mo_176
                · obtain rfl : k = 177 := by omega
                  obtain rfl : mt_177 = t := Option.some.inj h
                  exact mo_177
            · by_cases h178_182 : k < 180
              · by_cases h178_180 : k < 179
                · obtain rfl : k = 178 := by omega
                  obtain rfl : mt_178 = t := Option.some.inj h
                  exact mo_178
                · obtain rfl : k = 179 := by omega
                  obtain rfl : mt_179 = t := Option.some.inj h
                  exact mo_179
              · by_cases h180_182 : k < 181
                · obtain rfl : k = 180 := by omega
                  obtain rfl : mt_180 = t := Option.some.inj h
                  exact mo_180
                · obtain rfl : k = 181 := by omega
                  obtain rfl : mt_181 = t := Option.some.inj h
                  exact mo_181
        · by_cases h182_199 : k < 190
          · by_cases h182_190 : k < 186
            · by_cases h182_186 : k < 184
              · by_cases h182_184 : k < 183
                · obtain rfl : k = 182 := by omega
                  obtain rfl : mt_182 = t := Option.some.inj h
                  exact mo_182
                · obtain rfl : k = 183 := by omega
                  obtain rfl : mt_183 = t := Option.some.inj h
                  exact mo_183
              · by_cases h184_186 : k < 185
                · obtain rfl : k = 184 := by omega
                  obtain rfl : mt_184 = t := Option.some.inj h
                  exact mo_184
                · obtain rfl : k = 185 := by omega
                  obtain rfl : mt_185 = t := Option.some.inj h
                  exact mo_185
            · by_cases h186_190 : k < 188
              · by_cases h186_188 : k < 187
                · obtain rfl : k = 186 := by omega
                  obtain rfl : mt_186 = t := Option.some.inj h
                  exact mo_186
                · obtain rfl : k = 187 := by omega
                  obtain rfl : mt_187 = t := Option.some.inj h
                  exact mo_187
              · by_cases h188_190 : k < 189
                · obtain rfl : k = 188 := by omega
                  obtain rfl : mt_188 = t := Option.some.inj h
                  exact mo_188
                · obtain rfl : k = 189 := by omega
                  obtain rfl : mt_189 = t := Option.some.inj h
                  exact mo_189
          · by_cases h190_199 : k < 194
            · by_cases h190_194 : k < 192
              · by_cases h190_192 : k < 191
                · obtain rfl : k = 190 := by omega
                  obtain rfl : mt_190 = t := Option.some.inj h
                  exact mo_190
                · obtain rfl : k = 191 := by omega
                  obtain rfl : mt_191 = t := Option.some.inj h
                  exact mo_191
              · by_cases h192_194 : k < 193
                · obtain rfl : k = 192 := by omega
                  obtain rfl : mt_192 = t := Option.some.inj h
                  exact mo_192
                · obtain rfl : k = 193 := by omega
                  obtain rfl : mt_193 = t := Option.some.inj h
                  exact mo_193
            · by_cases h194_199 : k < 196
              · by_cases h194_196 : k < 195
                · obtain rfl : k = 194 := by omega
                  obtain rfl : mt_194 = t := Option.some.inj h
                  exact mo_194
                · obtain rfl : k = 195 := by omega
                  obtain rfl : mt_195 = t := Option.some.inj h
                  exact mo_195
              · by_cases h196_199 : k < 197
                · obtain rfl : k = 196 := by omega
                  obtain rfl : mt_196 = t := Option.some.inj h
                  exact mo_196
                · by_cases h197_199 : k < 198
                  · obtain rfl : k = 197 := by omega
                    obtain rfl : mt_197 = t := Option.some.inj h
                    exact mo_197
                  · obtain rfl : k = 198 := by omega
                    obtain rfl : mt_198 = t := Option.some.inj h
                    exact mo_198
    · by_cases h199_265 : k < 232
      · by_cases h199_232 : k < 215
        · by_cases h199_215 : k < 207
          · by_cases h199_207 : k < 203
            · by_cases h199_203 : k < 201
              · by_cases h199_201 : k < 200
                · obtain rfl : k = 199 := by omega
                  obtain rfl : mt_199 = t := Option.some.inj h
                  exact mo_199
                · obtain rfl : k = 200 := by omega
                  obtain rfl : mt_200 = t := Option.some.inj h
                  exact mo_200
              · by_cases h201_203 : k < 202
                · obtain rfl : k = 201 := by omega
                  obtain rfl : mt_201 = t := Option.some.inj h
                  exact mo_201
                · obtain rfl : k = 202 := by omega
                  obtain rfl : mt_202 = t := Option.some.inj h
                  exact mo_202
            · by_cases h203_207 : k < 205
              · by_cases h203_205 : k < 204
                · obtain rfl : k = 203 := by omega
                  obtain rfl : mt_203 = t := Option.some.inj h
                  exact mo_203
                · obtain rfl : k = 204 := by omega
                  obtain rfl : mt_204 = t := Option.some.inj h
                  exact mo_204
              · by_cases h205_207 : k < 206
                · obtain rfl : k = 205 := by omega
                  obtain rfl : mt_205 = t := Option.some.inj h
                  exact mo_205
                · obtain rfl : k = 206 := by omega
                  obtain rfl : mt_206 = t := Option.some.inj h
                  exact mo_206
          · by_cases h207_215 : k < 211
            · by_cases h207_211 : k < 209
              · by_cases h207_209 : k < 208
                · obtain rfl : k = 207 := by omega
                  obtain rfl : mt_207 = t := Option.some.inj h
                  exact mo_207
                · obtain rfl : k = 208 := by omega
                  obtain rfl : mt_208 = t := Option.some.inj h
                  exact mo_208
              · by_cases h209_211 : k < 210
                · obtain rfl : k = 209 := by omega
                  obtain rfl : mt_209 = t := Option.some.inj h
                  exact mo_209
                · obtain rfl : k = 210 := by omega
                  obtain rfl : mt_210 = t := Option.some.inj h
                  exact mo_210
            · by_cases h211_215 : k < 213
              · by_cases h211_213 : k < 212
                · obtain rfl : k = 211 := by omega
                  obtain rfl : mt_211 = t := Option.some.inj h
                  exact mo_211
                · obtain rfl : k = 212 := by omega
                  obtain rfl : mt_212 = t := Option.some.inj h
                  exact mo_212
              · by_cases h213_215 : k < 214
                · obtain rfl : k = 213 := by omega
                  obtain rfl : mt_213 = t := Option.some.inj h
                  exact mo_213
                · obtain rfl : k = 214 := by omega
                  obtain rfl : mt_214 = t := Option.some.inj h
                  exact mo_214
        · by_cases h215_232 : k < 223
          · by_cases h215_223 : k < 219
            · by_cases h215_219 : k < 217
              · by_cases h215_217 : k < 216
                · obtain rfl : k = 215 := by omega
                  obtain rfl : mt_215 = t := Option.some.inj h
                  exact mo_215
                · obtain rfl : k = 216 := by omega
                  obtain rfl : mt_216 = t := Option.some.inj h
                  exact mo_216
              · by_cases h217_219 : k < 218
                · obtain rfl : k = 217 := by omega
                  obtain rfl : mt_217 = t := Option.some.inj h
                  exact mo_217
                · obtain rfl : k = 218 := by omega
                  obtain rfl : mt_218 = t := Option.some.inj h
                  exact mo_218
            · by_cases h219_223 : k < 221
              · by_cases h219_221 : k < 220
                · obtain rfl : k = 219 := by omega
                  obtain rfl : mt_219 = t := Option.some.inj h
                  exact mo_219
                · obtain rfl : k = 220 := by omega
                  obtain rfl : mt_220 = t := Option.some.inj h
                  exact mo_220
              · by_cases h221_223 : k < 222
                · obtain rfl : k = 221 := by omega
                  obtain rfl : mt_221 = t := Option.some.inj h
                  exact mo_221
                · obtain rfl : k = 222 := by omega
                  obtain rfl : mt_222 = t := Option.some.inj h
                  exact mo_222
          · by_cases h223_232 : k < 227
            · by_cases h223_227 : k < 225
              · by_cases h223_225 : k < 224
                · obtain rfl : k = 223 := by omega
                  obtain rfl : mt_223 = t := Option.some.inj h
                  exact mo_223
                · obtain rfl : k = 224 := by omega
                  obtain rfl : mt_224 = t := Option.some.inj h
                  exact mo_224
              · by_cases h225_227 : k < 226
                · obtain rfl : k = 225 := by omega
                  obtain rfl : mt_225 = t := Option.some.inj h
                  exact mo_225
                · obtain rfl : k = 226 := by omega
                  obtain rfl : mt_226 = t := Option.some.inj h
                  exact mo_226
            · by_cases h227_232 : k < 229
              · by_cases h227_229 : k < 228
                · obtain rfl : k = 227 := by omega
                  obtain rfl : mt_227 = t := Option.some.inj h
                  exact mo_227
                · obtain rfl : k = 228 := by omega
                  obtain rfl : mt_228 = t := Option.some.inj h
                  exact mo_228
              · by_cases h229_232 : k < 230
                · obtain rfl : k = 229 := by omega
                  obtain rfl : mt_229 = t := Option.some.inj h
                  exact mo_229
                · by_cases h230_232 : k < 231
                  · obtain rfl : k = 230 := by omega
                    obtain rfl : mt_230 = t := Option.some.inj h
                    exact mo_230
                  · obtain rfl : k = 231 := by omega
                    obtain rfl : mt_231 = t := Option.some.inj h
                    exact mo_231
      · by_cases h232_265 : k < 248
        · by_cases h232_248 : k < 240
          · by_cases h232_240 : k < 236
            · by_cases h232_236 : k < 234
              · by_cases h232_234 : k < 233
                · obtain rfl : k = 232 := by omega
                  obtain rfl : mt_232 = t := Option.some.inj h
                  exact mo_232
                · obtain rfl : k = 233 := by omega
                  obtain rfl : mt_233 = t := Option.some.inj h
                  exact mo_233
              · by_cases h234_236 : k < 235
                · obtain rfl : k = 234 := by omega
                  obtain rfl : mt_234 = t := Option.some.inj h
                  exact mo_234
                · obtain rfl : k = 235 := by omega
                  obtain rfl : mt_235 = t := Option.some.inj h
                  exact mo_235
            · by_cases h236_240 : k < 238
              · by_cases h236_238 : k < 237
                · obtain rfl : k = 236 := by omega
                  obtain rfl : mt_236 = t := Option.some.inj h
                  exact mo_236
                · obtain rfl : k = 237 := by omega
                  obtain rfl : mt_237 = t := Option.some.inj h
                  exact mo_237
              · by_cases h238_240 : k < 239
                · obtain rfl : k = 238 := by omega
                  obtain rfl : mt_238 = t := Option.some.inj h
                  exact mo_238
                · obtain rfl : k = 239 := by omega
                  obtain rfl : mt_239 = t := Option.some.inj h
                  exact mo_239
          · by_cases h240_248 : k < 244
            · by_cases h240_244 : k < 242
              · by_cases h240_242 : k < 241
                · obtain rfl : k = 240 := by omega
                  obtain rfl : mt_240 = t := Option.some.inj h
                  exact mo_240
                · obtain rfl : k = 241 := by omega
                  obtain rfl : mt_241 = t := Option.some.inj h
                  exact mo_241
              · by_cases h242_244 : k < 243
                · obtain rfl : k = 242 := by omega
                  obtain rfl : mt_242 = t := Option.some.inj h
                  exact mo_242
                · obtain rfl : k = 243 := by omega
                  obtain rfl : mt_243 = t := Option.some.inj h
                  exact mo_243
            · by_cases h244_248 : k < 246
              · by_cases h244_246 : k < 245
                · obtain rfl : k = 244 := by omega
                  obtain rfl : mt_244 = t := Option.some.inj h
                  exact mo_244
                · obtain rfl : k = 245 := by omega
                  obtain rfl : mt_245 = t := Option.some.inj h
                  exact mo_245
              · by_cases h246_248 : k < 247
                · obtain rfl : k = 246 := by omega
                  obtain rfl : mt_246 = t := Option.some.inj h
                  exact mo_246
                · obtain rfl : k = 247 := by omega
                  obtain rfl : mt_247 = t := Option.some.inj h
                  exact mo_247
        · by_cases h248_265 : k < 256
          · by_cases h248_256 : k < 252
            · by_cases h248_252 : k < 250
              · by_cases h248_250 : k < 249
                · obtain rfl : k = 248 := by omega
                  obtain rfl : mt_248 = t := Option.some.inj h
                  exact mo_248
                · obtain rfl : k = 249 := by omega
                  obtain rfl : mt_249 = t := Option.some.inj h
                  exact mo_249
              · by_cases h250_252 : k < 251
                · obtain rfl : k = 250 := by omega
                  obtain rfl : mt_250 = t := Option.some.inj h
                  exact mo_250
                · obtain rfl : k = 251 := by omega
                  obtain rfl : mt_251 = t := Option.some.inj h
                  exact mo_251
            · by_cases h252_256 : k < 254
              · by_cases h252_254 : k < 253
                · obtain rfl : k = 252 := by omega
                  obtain rfl : mt_252 = t := Option.some.inj h
                  exact mo_252
                · obtain rfl : k = 253 := by omega
                  obtain rfl : mt_253 = t := Option.some.inj h
                  exact mo_253
              · by_cases h254_256 : k < 255
                · obtain rfl : k = 254 := by omega
                  obtain rfl : mt_254 = t := Option.some.inj h
                  exact mo_254
                · obtain rfl : k = 255 := by omega
                  obtain rfl : mt_255 = t := Option.some.inj h
                  exact mo_255
          · by_cases h256_265 : k < 260
            · by_cases h256_260 : k < 258
              · by_cases h256_258 : k < 257
                · obtain rfl : k = 256 := by omega
                  obtain rfl : mt_256 = t := Option.some.inj h
                  exact mo_256
                · obtain rfl : k = 257 := by omega
                  obtain rfl : mt_257 = t := Option.some.inj h
                  exact mo_257
              · by_cases h258_260 : k < 259
                · obtain rfl : k = 258 := by omega
                  obtain rfl : mt_258 = t := Option.some.inj h
                  exact mo_258
                · obtain rfl : k = 259 := by omega
                  obtain rfl : mt_259 = t := Option.some.inj h
                  exact mo_259
            · by_cases h260_265 : k < 262
              · by_cases h260_262 : k < 261
                · obtain rfl : k = 260 := by omega
                  obtain rfl : mt_260 = t := Option.some.inj h
                  exact mo_260
                · obtain rfl : k = 261 := by omega
                  obtain rfl : mt_261 = t := Option.some.inj h
                  exact mo_261
              · by_cases h262_265 : k < 263
                · obtain rfl : k = 262 := by omega
                  obtain rfl : mt_262 = t := Option.some.inj h
                  exact mo_262
                · by_cases h263_265 : k < 264
                  · obtain rfl : k = 263 := by omega
                    obtain rfl : mt_263 = t := Option.some.inj h
                    exact mo_263
                  · obtain rfl : k = 264 := by omega
                    obtain rfl : mt_264 = t := Option.some.inj h
                    exact mo_264
/-- calls: the entry's method -/
noncomputable def pj_okX (e : Nat × Nat × Nat × Nat × Bool) : Bool := match e.2.2.1 with
  | 1000 => decide (tables_1[e.2.2.2.1]? = some (Cond.methodLink (cn e.1) e.2.1 objectInit))
  | 1001 => decide (tables_1[e.2.2.2.1]? = some (Cond.methodLink (cn e.1) e.2.1 Lib.Math.min.name))
  | 1002 => decide (tables_1[e.2.2.2.1]? = some (Cond.methodLink (cn e.1) e.2.1 Lib.Math.max.name))
  | 1003 => decide (tables_1[e.2.2.2.1]? = some (Cond.methodLink (cn e.1) e.2.1 Lib.Math.abs.name))
  | 1004 => decide (tables_1[e.2.2.2.1]? = some (Cond.methodLink (cn e.1) e.2.1 arraycopyName))
  | 1005 => Nat.beq e.1 6 && Nat.beq e.2.1 40
  | x => (match tm x with
    | none => false
    | some t => !Nat.beq x 0 && (match e.2.2.2.2 with
      | false => decide (tables_1[e.2.2.2.1]? = some (Cond.methodLink (cn e.1) e.2.1 t.1.1))
      | true => decide (tables_1[e.2.2.2.1]? = some (Cond.methodLinkNest (cn e.1) e.2.1 t.1.1 "PegCoats"))))
set_option maxRecDepth 100000 in
theorem cpM_0_ok : cpM_0.all pj_okX = true := by decide +kernel
set_option maxRecDepth 100000 in
theorem cpM_1_ok : cpM_1.all pj_okX = true := by decide +kernel
set_option maxRecDepth 100000 in
theorem cpM_2_ok : cpM_2.all pj_okX = true := by decide +kernel
set_option maxRecDepth 100000 in
theorem cpM_3_ok : cpM_3.all pj_okX = true := by decide +kernel
set_option maxRecDepth 100000 in
theorem cpM_4_ok : cpM_4.all pj_okX = true := by decide +kernel
set_option maxRecDepth 100000 in
theorem cpM_5_ok : cpM_5.all pj_okX = true := by decide +kernel
theorem cpM_ok : cpM.all pj_okX = true := by
  unfold cpM
  rw [List.all_append, List.all_append, List.all_append, List.all_append, List.all_append, cpM_0_ok, cpM_1_ok, cpM_2_ok, cpM_3_ok, cpM_4_ok, cpM_5_ok]
  rfl
