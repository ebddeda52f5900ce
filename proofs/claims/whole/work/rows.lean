section
-- ===== PART A: goes FIRST, ahead of the names: the tables' words, and 'selects' of the private methods out of them =====
/-- a private method of a class that the tables say can be made, by its rows of tables_1 -/
def lw_okq (q : MethodName × Nat) : Prop := (q.1.cls ≠ "java/lang/invoke/MethodHandle" ∧ q.1.cls ≠ "java/lang/invoke/VarHandle") ∧ Cond.instantiable q.1.cls q.2 ∈ tables_1 ∧ Cond.privateMethod q.1 ∈ tables_1 ∧ Cond.instanceMethod q.1 ∈ tables_1
theorem lw_p0 : lw_okq (⟨"PegCoats", "refuse", "(I)I"⟩, 16) := ⟨⟨by decide +kernel, by decide +kernel⟩, List.mem_of_getElem? (i := 22) (by decide +kernel), List.mem_of_getElem? (i := 543) (by decide +kernel), List.mem_of_getElem? (i := 544) (by decide +kernel)⟩
theorem lw_p1 : lw_okq (⟨"PegCoats", "deny", "(I)Z"⟩, 16) := ⟨⟨by decide +kernel, by decide +kernel⟩, List.mem_of_getElem? (i := 22) (by decide +kernel), List.mem_of_getElem? (i := 559) (by decide +kernel), List.mem_of_getElem? (i := 560) (by decide +kernel)⟩
theorem lw_p2 : lw_okq (⟨"PegCoats$Scanner", "ownWord", "(I)I"⟩, 8) := ⟨⟨by decide +kernel, by decide +kernel⟩, List.mem_of_getElem? (i := 150) (by decide +kernel), List.mem_of_getElem? (i := 593) (by decide +kernel), List.mem_of_getElem? (i := 594) (by decide +kernel)⟩
theorem lw_p3 : lw_okq (⟨"PegCoats$Reading", "readStatement", "()V"⟩, 6) := ⟨⟨by decide +kernel, by decide +kernel⟩, List.mem_of_getElem? (i := 144) (by decide +kernel), List.mem_of_getElem? (i := 601) (by decide +kernel), List.mem_of_getElem? (i := 602) (by decide +kernel)⟩
theorem lw_p4 : lw_okq (⟨"PegCoats$Reading", "fail", "(II)V"⟩, 6) := ⟨⟨by decide +kernel, by decide +kernel⟩, List.mem_of_getElem? (i := 144) (by decide +kernel), List.mem_of_getElem? (i := 605) (by decide +kernel), List.mem_of_getElem? (i := 606) (by decide +kernel)⟩
theorem lw_p5 : lw_okq (⟨"PegCoats$Reading", "readCoat", "()V"⟩, 6) := ⟨⟨by decide +kernel, by decide +kernel⟩, List.mem_of_getElem? (i := 144) (by decide +kernel), List.mem_of_getElem? (i := 609) (by decide +kernel), List.mem_of_getElem? (i := 610) (by decide +kernel)⟩
theorem lw_p6 : lw_okq (⟨"PegCoats$Reading", "takeNewName", "()I"⟩, 6) := ⟨⟨by decide +kernel, by decide +kernel⟩, List.mem_of_getElem? (i := 144) (by decide +kernel), List.mem_of_getElem? (i := 614) (by decide +kernel), List.mem_of_getElem? (i := 615) (by decide +kernel)⟩
theorem lw_p7 : lw_okq (⟨"PegCoats$Reading", "peekName", "()I"⟩, 6) := ⟨⟨by decide +kernel, by decide +kernel⟩, List.mem_of_getElem? (i := 144) (by decide +kernel), List.mem_of_getElem? (i := 618) (by decide +kernel), List.mem_of_getElem? (i := 619) (by decide +kernel)⟩
theorem lw_p8 : lw_okq (⟨"PegCoats$Reading", "failHere", "()V"⟩, 6) := ⟨⟨by decide +kernel, by decide +kernel⟩, List.mem_of_getElem? (i := 144) (by decide +kernel), List.mem_of_getElem? (i := 622) (by decide +kernel), List.mem_of_getElem? (i := 623) (by decide +kernel)⟩
theorem lw_p9 : lw_okq (⟨"PegCoats$Reading", "takeWord", "(I)V"⟩, 6) := ⟨⟨by decide +kernel, by decide +kernel⟩, List.mem_of_getElem? (i := 144) (by decide +kernel), List.mem_of_getElem? (i := 634) (by decide +kernel), List.mem_of_getElem? (i := 635) (by decide +kernel)⟩
theorem lw_p10 : lw_okq (⟨"PegCoats$Reading", "takeNumber", "(II)I"⟩, 6) := ⟨⟨by decide +kernel, by decide +kernel⟩, List.mem_of_getElem? (i := 144) (by decide +kernel), List.mem_of_getElem? (i := 638) (by decide +kernel), List.mem_of_getElem? (i := 639) (by decide +kernel)⟩
theorem lw_p11 : lw_okq (⟨"PegCoats$Reading", "readMan", "()V"⟩, 6) := ⟨⟨by decide +kernel, by decide +kernel⟩, List.mem_of_getElem? (i := 144) (by decide +kernel), List.mem_of_getElem? (i := 642) (by decide +kernel), List.mem_of_getElem? (i := 643) (by decide +kernel)⟩
theorem lw_p12 : lw_okq (⟨"PegCoats$Reading", "readWears", "()V"⟩, 6) := ⟨⟨by decide +kernel, by decide +kernel⟩, List.mem_of_getElem? (i := 144) (by decide +kernel), List.mem_of_getElem? (i := 646) (by decide +kernel), List.mem_of_getElem? (i := 647) (by decide +kernel)⟩
theorem lw_p13 : lw_okq (⟨"PegCoats$Reading", "readProgram", "(I)V"⟩, 6) := ⟨⟨by decide +kernel, by decide +kernel⟩, List.mem_of_getElem? (i := 144) (by decide +kernel), List.mem_of_getElem? (i := 651) (by decide +kernel), List.mem_of_getElem? (i := 652) (by decide +kernel)⟩
theorem lw_p14 : lw_okq (⟨"PegCoats$Reading", "readTest", "()V"⟩, 6) := ⟨⟨by decide +kernel, by decide +kernel⟩, List.mem_of_getElem? (i := 144) (by decide +kernel), List.mem_of_getElem? (i := 659) (by decide +kernel), List.mem_of_getElem? (i := 660) (by decide +kernel)⟩
theorem lw_p15 : lw_okq (⟨"PegCoats$Reading", "readBoth", "()V"⟩, 6) := ⟨⟨by decide +kernel, by decide +kernel⟩, List.mem_of_getElem? (i := 144) (by decide +kernel), List.mem_of_getElem? (i := 663) (by decide +kernel), List.mem_of_getElem? (i := 664) (by decide +kernel)⟩
def lw_privs_1 : List (MethodName × Nat) := [(⟨"PegCoats", "refuse", "(I)I"⟩, 16), (⟨"PegCoats", "deny", "(I)Z"⟩, 16), (⟨"PegCoats$Scanner", "ownWord", "(I)I"⟩, 8), (⟨"PegCoats$Reading", "readStatement", "()V"⟩, 6), (⟨"PegCoats$Reading", "fail", "(II)V"⟩, 6), (⟨"PegCoats$Reading", "readCoat", "()V"⟩, 6), (⟨"PegCoats$Reading", "takeNewName", "()I"⟩, 6), (⟨"PegCoats$Reading", "peekName", "()I"⟩, 6), (⟨"PegCoats$Reading", "failHere", "()V"⟩, 6), (⟨"PegCoats$Reading", "takeWord", "(I)V"⟩, 6), (⟨"PegCoats$Reading", "takeNumber", "(II)I"⟩, 6), (⟨"PegCoats$Reading", "readMan", "()V"⟩, 6), (⟨"PegCoats$Reading", "readWears", "()V"⟩, 6), (⟨"PegCoats$Reading", "readProgram", "(I)V"⟩, 6), (⟨"PegCoats$Reading", "readTest", "()V"⟩, 6), (⟨"PegCoats$Reading", "readBoth", "()V"⟩, 6)]
theorem lw_r1 : ∀ q ∈ lw_privs_1, lw_okq q := List.forall_mem_cons.mpr ⟨lw_p0, List.forall_mem_cons.mpr ⟨lw_p1, List.forall_mem_cons.mpr ⟨lw_p2, List.forall_mem_cons.mpr ⟨lw_p3, List.forall_mem_cons.mpr ⟨lw_p4, List.forall_mem_cons.mpr ⟨lw_p5, List.forall_mem_cons.mpr ⟨lw_p6, List.forall_mem_cons.mpr ⟨lw_p7, List.forall_mem_cons.mpr ⟨lw_p8, List.forall_mem_cons.mpr ⟨lw_p9, List.forall_mem_cons.mpr ⟨lw_p10, List.forall_mem_cons.mpr ⟨lw_p11, List.forall_mem_cons.mpr ⟨lw_p12, List.forall_mem_cons.mpr ⟨lw_p13, List.forall_mem_cons.mpr ⟨lw_p14, List.forall_mem_cons.mpr ⟨lw_p15, fun _ h => absurd h List.not_mem_nil⟩⟩⟩⟩⟩⟩⟩⟩⟩⟩⟩⟩⟩⟩⟩⟩
theorem lw_p16 : lw_okq (⟨"PegCoats$Reading", "readFact", "()V"⟩, 6) := ⟨⟨by decide +kernel, by decide +kernel⟩, List.mem_of_getElem? (i := 144) (by decide +kernel), List.mem_of_getElem? (i := 667) (by decide +kernel), List.mem_of_getElem? (i := 668) (by decide +kernel)⟩
theorem lw_p17 : lw_okq (⟨"PegCoats$Reading", "opens", "()Z"⟩, 6) := ⟨⟨by decide +kernel, by decide +kernel⟩, List.mem_of_getElem? (i := 144) (by decide +kernel), List.mem_of_getElem? (i := 671) (by decide +kernel), List.mem_of_getElem? (i := 672) (by decide +kernel)⟩
theorem lw_p18 : lw_okq (⟨"PegCoats$Reading", "emit", "(I)V"⟩, 6) := ⟨⟨by decide +kernel, by decide +kernel⟩, List.mem_of_getElem? (i := 144) (by decide +kernel), List.mem_of_getElem? (i := 675) (by decide +kernel), List.mem_of_getElem? (i := 676) (by decide +kernel)⟩
theorem lw_p19 : lw_okq (⟨"PegCoats$Reading", "closes", "(C)V"⟩, 6) := ⟨⟨by decide +kernel, by decide +kernel⟩, List.mem_of_getElem? (i := 144) (by decide +kernel), List.mem_of_getElem? (i := 683) (by decide +kernel), List.mem_of_getElem? (i := 684) (by decide +kernel)⟩
theorem lw_p20 : lw_okq (⟨"PegCoats$Reading", "takeSign", "(C)V"⟩, 6) := ⟨⟨by decide +kernel, by decide +kernel⟩, List.mem_of_getElem? (i := 144) (by decide +kernel), List.mem_of_getElem? (i := 687) (by decide +kernel), List.mem_of_getElem? (i := 688) (by decide +kernel)⟩
theorem lw_p21 : lw_okq (⟨"PegCoats$Reading", "readComparison", "()V"⟩, 6) := ⟨⟨by decide +kernel, by decide +kernel⟩, List.mem_of_getElem? (i := 144) (by decide +kernel), List.mem_of_getElem? (i := 691) (by decide +kernel), List.mem_of_getElem? (i := 692) (by decide +kernel)⟩
theorem lw_p22 : lw_okq (⟨"PegCoats$Reading", "readSum", "()V"⟩, 6) := ⟨⟨by decide +kernel, by decide +kernel⟩, List.mem_of_getElem? (i := 144) (by decide +kernel), List.mem_of_getElem? (i := 695) (by decide +kernel), List.mem_of_getElem? (i := 696) (by decide +kernel)⟩
theorem lw_p23 : lw_okq (⟨"PegCoats$Reading", "readProduct", "()V"⟩, 6) := ⟨⟨by decide +kernel, by decide +kernel⟩, List.mem_of_getElem? (i := 144) (by decide +kernel), List.mem_of_getElem? (i := 699) (by decide +kernel), List.mem_of_getElem? (i := 700) (by decide +kernel)⟩
theorem lw_p24 : lw_okq (⟨"PegCoats$Reading", "readPart", "()V"⟩, 6) := ⟨⟨by decide +kernel, by decide +kernel⟩, List.mem_of_getElem? (i := 144) (by decide +kernel), List.mem_of_getElem? (i := 703) (by decide +kernel), List.mem_of_getElem? (i := 704) (by decide +kernel)⟩
theorem lw_p25 : lw_okq (⟨"PegCoats$Reading", "readChoice", "(I)V"⟩, 6) := ⟨⟨by decide +kernel, by decide +kernel⟩, List.mem_of_getElem? (i := 144) (by decide +kernel), List.mem_of_getElem? (i := 707) (by decide +kernel), List.mem_of_getElem? (i := 708) (by decide +kernel)⟩
theorem lw_p26 : lw_okq (⟨"PegCoats$Reading", "isValue", "(I)Z"⟩, 6) := ⟨⟨by decide +kernel, by decide +kernel⟩, List.mem_of_getElem? (i := 144) (by decide +kernel), List.mem_of_getElem? (i := 711) (by decide +kernel), List.mem_of_getElem? (i := 712) (by decide +kernel)⟩
theorem lw_p27 : lw_okq (⟨"PegCoats$Reading", "atProductSign", "()Z"⟩, 6) := ⟨⟨by decide +kernel, by decide +kernel⟩, List.mem_of_getElem? (i := 144) (by decide +kernel), List.mem_of_getElem? (i := 715) (by decide +kernel), List.mem_of_getElem? (i := 716) (by decide +kernel)⟩
theorem lw_p28 : lw_okq (⟨"PegCoats", "toldAsKept", "()I"⟩, 16) := ⟨⟨by decide +kernel, by decide +kernel⟩, List.mem_of_getElem? (i := 22) (by decide +kernel), List.mem_of_getElem? (i := 770) (by decide +kernel), List.mem_of_getElem? (i := 771) (by decide +kernel)⟩
theorem lw_p29 : lw_okq (⟨"PegCoats", "isCoat", "(I)Z"⟩, 16) := ⟨⟨by decide +kernel, by decide +kernel⟩, List.mem_of_getElem? (i := 22) (by decide +kernel), List.mem_of_getElem? (i := 781) (by decide +kernel), List.mem_of_getElem? (i := 782) (by decide +kernel)⟩
theorem lw_p30 : lw_okq (⟨"PegCoats", "isMan", "(I)Z"⟩, 16) := ⟨⟨by decide +kernel, by decide +kernel⟩, List.mem_of_getElem? (i := 22) (by decide +kernel), List.mem_of_getElem? (i := 788) (by decide +kernel), List.mem_of_getElem? (i := 789) (by decide +kernel)⟩
theorem lw_p31 : lw_okq (⟨"PegCoats$Works", "result", "(I)I"⟩, 17) := ⟨⟨by decide +kernel, by decide +kernel⟩, List.mem_of_getElem? (i := 48) (by decide +kernel), List.mem_of_getElem? (i := 817) (by decide +kernel), List.mem_of_getElem? (i := 818) (by decide +kernel)⟩
def lw_privs_2 : List (MethodName × Nat) := [(⟨"PegCoats$Reading", "readFact", "()V"⟩, 6), (⟨"PegCoats$Reading", "opens", "()Z"⟩, 6), (⟨"PegCoats$Reading", "emit", "(I)V"⟩, 6), (⟨"PegCoats$Reading", "closes", "(C)V"⟩, 6), (⟨"PegCoats$Reading", "takeSign", "(C)V"⟩, 6), (⟨"PegCoats$Reading", "readComparison", "()V"⟩, 6), (⟨"PegCoats$Reading", "readSum", "()V"⟩, 6), (⟨"PegCoats$Reading", "readProduct", "()V"⟩, 6), (⟨"PegCoats$Reading", "readPart", "()V"⟩, 6), (⟨"PegCoats$Reading", "readChoice", "(I)V"⟩, 6), (⟨"PegCoats$Reading", "isValue", "(I)Z"⟩, 6), (⟨"PegCoats$Reading", "atProductSign", "()Z"⟩, 6), (⟨"PegCoats", "toldAsKept", "()I"⟩, 16), (⟨"PegCoats", "isCoat", "(I)Z"⟩, 16), (⟨"PegCoats", "isMan", "(I)Z"⟩, 16), (⟨"PegCoats$Works", "result", "(I)I"⟩, 17)]
theorem lw_r2 : ∀ q ∈ lw_privs_2, lw_okq q := List.forall_mem_cons.mpr ⟨lw_p16, List.forall_mem_cons.mpr ⟨lw_p17, List.forall_mem_cons.mpr ⟨lw_p18, List.forall_mem_cons.mpr ⟨lw_p19, List.forall_mem_cons.mpr ⟨lw_p20, List.forall_mem_cons.mpr ⟨lw_p21, List.forall_mem_cons.mpr ⟨lw_p22, List.forall_mem_cons.mpr ⟨lw_p23, List.forall_mem_cons.mpr ⟨lw_p24, List.forall_mem_cons.mpr ⟨lw_p25, List.forall_mem_cons.mpr ⟨lw_p26, List.forall_mem_cons.mpr ⟨lw_p27, List.forall_mem_cons.mpr ⟨lw_p28, List.forall_mem_cons.mpr ⟨lw_p29, List.forall_mem_cons.mpr ⟨lw_p30, List.forall_mem_cons.mpr ⟨lw_p31, fun _ h => absurd h List.not_mem_nil⟩⟩⟩⟩⟩⟩⟩⟩⟩⟩⟩⟩⟩⟩⟩⟩
theorem lw_p32 : lw_okq (⟨"PegCoats", "canCome", "(III)Z"⟩, 16) := ⟨⟨by decide +kernel, by decide +kernel⟩, List.mem_of_getElem? (i := 22) (by decide +kernel), List.mem_of_getElem? (i := 832) (by decide +kernel), List.mem_of_getElem? (i := 833) (by decide +kernel)⟩
theorem lw_p33 : lw_okq (⟨"PegCoats", "lookAhead", "(I)V"⟩, 16) := ⟨⟨by decide +kernel, by decide +kernel⟩, List.mem_of_getElem? (i := 22) (by decide +kernel), List.mem_of_getElem? (i := 836) (by decide +kernel), List.mem_of_getElem? (i := 837) (by decide +kernel)⟩
theorem lw_p34 : lw_okq (⟨"PegCoats$Course", "growAll", "(LPegCoats$State;)V"⟩, 3) := ⟨⟨by decide +kernel, by decide +kernel⟩, List.mem_of_getElem? (i := 249) (by decide +kernel), List.mem_of_getElem? (i := 849) (by decide +kernel), List.mem_of_getElem? (i := 850) (by decide +kernel)⟩
theorem lw_p35 : lw_okq (⟨"PegCoats$Course", "leaveAll", "(LPegCoats$State;)V"⟩, 3) := ⟨⟨by decide +kernel, by decide +kernel⟩, List.mem_of_getElem? (i := 249) (by decide +kernel), List.mem_of_getElem? (i := 862) (by decide +kernel), List.mem_of_getElem? (i := 863) (by decide +kernel)⟩
theorem lw_p36 : lw_okq (⟨"PegCoats$Course", "dressAll", "(LPegCoats$State;I)V"⟩, 3) := ⟨⟨by decide +kernel, by decide +kernel⟩, List.mem_of_getElem? (i := 249) (by decide +kernel), List.mem_of_getElem? (i := 870) (by decide +kernel), List.mem_of_getElem? (i := 871) (by decide +kernel)⟩
theorem lw_p37 : lw_okq (⟨"PegCoats$Course", "payAll", "(LPegCoats$State;)V"⟩, 3) := ⟨⟨by decide +kernel, by decide +kernel⟩, List.mem_of_getElem? (i := 249) (by decide +kernel), List.mem_of_getElem? (i := 884) (by decide +kernel), List.mem_of_getElem? (i := 885) (by decide +kernel)⟩
theorem lw_p38 : lw_okq (⟨"PegCoats", "isThere", "(I)Z"⟩, 16) := ⟨⟨by decide +kernel, by decide +kernel⟩, List.mem_of_getElem? (i := 22) (by decide +kernel), List.mem_of_getElem? (i := 896) (by decide +kernel), List.mem_of_getElem? (i := 897) (by decide +kernel)⟩
theorem lw_p39 : lw_okq (⟨"PegCoats$Matching", "bestFrom", "(II)I"⟩, 3) := ⟨⟨by decide +kernel, by decide +kernel⟩, List.mem_of_getElem? (i := 366) (by decide +kernel), List.mem_of_getElem? (i := 911) (by decide +kernel), List.mem_of_getElem? (i := 912) (by decide +kernel)⟩
theorem lw_p40 : lw_okq (⟨"PegCoats$Matching", "canTake", "(III)Z"⟩, 3) := ⟨⟨by decide +kernel, by decide +kernel⟩, List.mem_of_getElem? (i := 366) (by decide +kernel), List.mem_of_getElem? (i := 915) (by decide +kernel), List.mem_of_getElem? (i := 916) (by decide +kernel)⟩
theorem lw_p41 : lw_okq (⟨"PegCoats$Matching", "firstChoice", "(II)I"⟩, 3) := ⟨⟨by decide +kernel, by decide +kernel⟩, List.mem_of_getElem? (i := 366) (by decide +kernel), List.mem_of_getElem? (i := 927) (by decide +kernel), List.mem_of_getElem? (i := 928) (by decide +kernel)⟩
theorem lw_p42 : lw_okq (⟨"PegCoats", "wouldGladlyChange", "(II)Z"⟩, 16) := ⟨⟨by decide +kernel, by decide +kernel⟩, List.mem_of_getElem? (i := 22) (by decide +kernel), List.mem_of_getElem? (i := 935) (by decide +kernel), List.mem_of_getElem? (i := 936) (by decide +kernel)⟩
theorem lw_p43 : lw_okq (⟨"PegCoats", "warmer", "(III)Z"⟩, 16) := ⟨⟨by decide +kernel, by decide +kernel⟩, List.mem_of_getElem? (i := 22) (by decide +kernel), List.mem_of_getElem? (i := 939) (by decide +kernel), List.mem_of_getElem? (i := 940) (by decide +kernel)⟩
theorem lw_p44 : lw_okq (⟨"PegCoats$Passing", "reaches", "(IIII)Z"⟩, 5) := ⟨⟨by decide +kernel, by decide +kernel⟩, List.mem_of_getElem? (i := 384) (by decide +kernel), List.mem_of_getElem? (i := 956) (by decide +kernel), List.mem_of_getElem? (i := 957) (by decide +kernel)⟩
theorem lw_p45 : lw_okq (⟨"PegCoats$Passing", "brings", "(IIII)Z"⟩, 5) := ⟨⟨by decide +kernel, by decide +kernel⟩, List.mem_of_getElem? (i := 384) (by decide +kernel), List.mem_of_getElem? (i := 960) (by decide +kernel), List.mem_of_getElem? (i := 961) (by decide +kernel)⟩
theorem lw_p46 : lw_okq (⟨"PegCoats$Passing", "nobodyColder", "(II)Z"⟩, 5) := ⟨⟨by decide +kernel, by decide +kernel⟩, List.mem_of_getElem? (i := 384) (by decide +kernel), List.mem_of_getElem? (i := 964) (by decide +kernel), List.mem_of_getElem? (i := 965) (by decide +kernel)⟩
theorem lw_p47 : lw_okq (⟨"PegCoats$Passing", "warmthOf", "(III)I"⟩, 5) := ⟨⟨by decide +kernel, by decide +kernel⟩, List.mem_of_getElem? (i := 384) (by decide +kernel), List.mem_of_getElem? (i := 968) (by decide +kernel), List.mem_of_getElem? (i := 969) (by decide +kernel)⟩
def lw_privs_3 : List (MethodName × Nat) := [(⟨"PegCoats", "canCome", "(III)Z"⟩, 16), (⟨"PegCoats", "lookAhead", "(I)V"⟩, 16), (⟨"PegCoats$Course", "growAll", "(LPegCoats$State;)V"⟩, 3), (⟨"PegCoats$Course", "leaveAll", "(LPegCoats$State;)V"⟩, 3), (⟨"PegCoats$Course", "dressAll", "(LPegCoats$State;I)V"⟩, 3), (⟨"PegCoats$Course", "payAll", "(LPegCoats$State;)V"⟩, 3), (⟨"PegCoats", "isThere", "(I)Z"⟩, 16), (⟨"PegCoats$Matching", "bestFrom", "(II)I"⟩, 3), (⟨"PegCoats$Matching", "canTake", "(III)Z"⟩, 3), (⟨"PegCoats$Matching", "firstChoice", "(II)I"⟩, 3), (⟨"PegCoats", "wouldGladlyChange", "(II)Z"⟩, 16), (⟨"PegCoats", "warmer", "(III)Z"⟩, 16), (⟨"PegCoats$Passing", "reaches", "(IIII)Z"⟩, 5), (⟨"PegCoats$Passing", "brings", "(IIII)Z"⟩, 5), (⟨"PegCoats$Passing", "nobodyColder", "(II)Z"⟩, 5), (⟨"PegCoats$Passing", "warmthOf", "(III)I"⟩, 5)]
theorem lw_r3 : ∀ q ∈ lw_privs_3, lw_okq q := List.forall_mem_cons.mpr ⟨lw_p32, List.forall_mem_cons.mpr ⟨lw_p33, List.forall_mem_cons.mpr ⟨lw_p34, List.forall_mem_cons.mpr ⟨lw_p35, List.forall_mem_cons.mpr ⟨lw_p36, List.forall_mem_cons.mpr ⟨lw_p37, List.forall_mem_cons.mpr ⟨lw_p38, List.forall_mem_cons.mpr ⟨lw_p39, List.forall_mem_cons.mpr ⟨lw_p40, List.forall_mem_cons.mpr ⟨lw_p41, List.forall_mem_cons.mpr ⟨lw_p42, List.forall_mem_cons.mpr ⟨lw_p43, List.forall_mem_cons.mpr ⟨lw_p44, List.forall_mem_cons.mpr ⟨lw_p45, List.forall_mem_cons.mpr ⟨lw_p46, List.forall_mem_cons.mpr ⟨lw_p47, fun _ h => absurd h List.not_mem_nil⟩⟩⟩⟩⟩⟩⟩⟩⟩⟩⟩⟩⟩⟩⟩⟩
theorem lw_p48 : lw_okq (⟨"PegCoats$Passing", "reachesBehind", "(IIIIII)Z"⟩, 5) := ⟨⟨by decide +kernel, by decide +kernel⟩, List.mem_of_getElem? (i := 384) (by decide +kernel), List.mem_of_getElem? (i := 974) (by decide +kernel), List.mem_of_getElem? (i := 975) (by decide +kernel)⟩
theorem lw_p49 : lw_okq (⟨"PegCoats$Passing", "liningOf", "(I)I"⟩, 5) := ⟨⟨by decide +kernel, by decide +kernel⟩, List.mem_of_getElem? (i := 384) (by decide +kernel), List.mem_of_getElem? (i := 978) (by decide +kernel), List.mem_of_getElem? (i := 979) (by decide +kernel)⟩
theorem lw_p50 : lw_okq (⟨"PegCoats$Passing", "putBack", "(III)V"⟩, 5) := ⟨⟨by decide +kernel, by decide +kernel⟩, List.mem_of_getElem? (i := 384) (by decide +kernel), List.mem_of_getElem? (i := 987) (by decide +kernel), List.mem_of_getElem? (i := 988) (by decide +kernel)⟩
theorem lw_p51 : lw_okq (⟨"PegCoats$Telling", "choicesOf", "(LPegCoats$State;I)I"⟩, 12) := ⟨⟨by decide +kernel, by decide +kernel⟩, List.mem_of_getElem? (i := 409) (by decide +kernel), List.mem_of_getElem? (i := 1022) (by decide +kernel), List.mem_of_getElem? (i := 1023) (by decide +kernel)⟩
theorem lw_p52 : lw_okq (⟨"PegCoats$Telling", "outfit", "()I"⟩, 12) := ⟨⟨by decide +kernel, by decide +kernel⟩, List.mem_of_getElem? (i := 409) (by decide +kernel), List.mem_of_getElem? (i := 1029) (by decide +kernel), List.mem_of_getElem? (i := 1030) (by decide +kernel)⟩
theorem lw_p53 : lw_okq (⟨"PegCoats$Telling", "goesWithRows", "(I)Z"⟩, 12) := ⟨⟨by decide +kernel, by decide +kernel⟩, List.mem_of_getElem? (i := 409) (by decide +kernel), List.mem_of_getElem? (i := 1034) (by decide +kernel), List.mem_of_getElem? (i := 1035) (by decide +kernel)⟩
theorem lw_p54 : lw_okq (⟨"PegCoats$Telling", "coatIn", "(III)I"⟩, 12) := ⟨⟨by decide +kernel, by decide +kernel⟩, List.mem_of_getElem? (i := 409) (by decide +kernel), List.mem_of_getElem? (i := 1038) (by decide +kernel), List.mem_of_getElem? (i := 1039) (by decide +kernel)⟩
theorem lw_p55 : lw_okq (⟨"PegCoats$Telling", "mostLeft", "(II)I"⟩, 12) := ⟨⟨by decide +kernel, by decide +kernel⟩, List.mem_of_getElem? (i := 409) (by decide +kernel), List.mem_of_getElem? (i := 1050) (by decide +kernel), List.mem_of_getElem? (i := 1051) (by decide +kernel)⟩
theorem lw_p56 : lw_okq (⟨"PegCoats", "keepOneYear", "()V"⟩, 16) := ⟨⟨by decide +kernel, by decide +kernel⟩, List.mem_of_getElem? (i := 22) (by decide +kernel), List.mem_of_getElem? (i := 1064) (by decide +kernel), List.mem_of_getElem? (i := 1065) (by decide +kernel)⟩
theorem lw_p57 : lw_okq (⟨"PegCoats", "burnsOne", "()Z"⟩, 16) := ⟨⟨by decide +kernel, by decide +kernel⟩, List.mem_of_getElem? (i := 22) (by decide +kernel), List.mem_of_getElem? (i := 1072) (by decide +kernel), List.mem_of_getElem? (i := 1073) (by decide +kernel)⟩
theorem lw_p58 : lw_okq (⟨"PegCoats", "draw", "(I)I"⟩, 16) := ⟨⟨by decide +kernel, by decide +kernel⟩, List.mem_of_getElem? (i := 22) (by decide +kernel), List.mem_of_getElem? (i := 1076) (by decide +kernel), List.mem_of_getElem? (i := 1077) (by decide +kernel)⟩
theorem lw_p59 : lw_okq (⟨"PegCoats", "isPegged", "(I)Z"⟩, 16) := ⟨⟨by decide +kernel, by decide +kernel⟩, List.mem_of_getElem? (i := 22) (by decide +kernel), List.mem_of_getElem? (i := 1097) (by decide +kernel), List.mem_of_getElem? (i := 1098) (by decide +kernel)⟩
theorem lw_p60 : lw_okq (⟨"PegCoats$Picture", "write", "(I)V"⟩, 3) := ⟨⟨by decide +kernel, by decide +kernel⟩, List.mem_of_getElem? (i := 460) (by decide +kernel), List.mem_of_getElem? (i := 1130) (by decide +kernel), List.mem_of_getElem? (i := 1131) (by decide +kernel)⟩
theorem lw_p61 : lw_okq (⟨"PegCoats$Picture", "readsMan", "(LPegCoats$State;LPegCoats$Tape;II)Z"⟩, 3) := ⟨⟨by decide +kernel, by decide +kernel⟩, List.mem_of_getElem? (i := 460) (by decide +kernel), List.mem_of_getElem? (i := 1153) (by decide +kernel), List.mem_of_getElem? (i := 1154) (by decide +kernel)⟩
theorem lw_p62 : lw_okq (⟨"PegCoatsModel", "refuses", "(I)I"⟩, 67) := ⟨⟨by decide +kernel, by decide +kernel⟩, List.mem_of_getElem? (i := 1161) (by decide +kernel), List.mem_of_getElem? (i := 1374) (by decide +kernel), List.mem_of_getElem? (i := 1375) (by decide +kernel)⟩
theorem lw_p63 : lw_okq (⟨"PegCoatsModel", "put", "(I)V"⟩, 67) := ⟨⟨by decide +kernel, by decide +kernel⟩, List.mem_of_getElem? (i := 1161) (by decide +kernel), List.mem_of_getElem? (i := 1378) (by decide +kernel), List.mem_of_getElem? (i := 1379) (by decide +kernel)⟩
def lw_privs_4 : List (MethodName × Nat) := [(⟨"PegCoats$Passing", "reachesBehind", "(IIIIII)Z"⟩, 5), (⟨"PegCoats$Passing", "liningOf", "(I)I"⟩, 5), (⟨"PegCoats$Passing", "putBack", "(III)V"⟩, 5), (⟨"PegCoats$Telling", "choicesOf", "(LPegCoats$State;I)I"⟩, 12), (⟨"PegCoats$Telling", "outfit", "()I"⟩, 12), (⟨"PegCoats$Telling", "goesWithRows", "(I)Z"⟩, 12), (⟨"PegCoats$Telling", "coatIn", "(III)I"⟩, 12), (⟨"PegCoats$Telling", "mostLeft", "(II)I"⟩, 12), (⟨"PegCoats", "keepOneYear", "()V"⟩, 16), (⟨"PegCoats", "burnsOne", "()Z"⟩, 16), (⟨"PegCoats", "draw", "(I)I"⟩, 16), (⟨"PegCoats", "isPegged", "(I)Z"⟩, 16), (⟨"PegCoats$Picture", "write", "(I)V"⟩, 3), (⟨"PegCoats$Picture", "readsMan", "(LPegCoats$State;LPegCoats$Tape;II)Z"⟩, 3), (⟨"PegCoatsModel", "refuses", "(I)I"⟩, 67), (⟨"PegCoatsModel", "put", "(I)V"⟩, 67)]
theorem lw_r4 : ∀ q ∈ lw_privs_4, lw_okq q := List.forall_mem_cons.mpr ⟨lw_p48, List.forall_mem_cons.mpr ⟨lw_p49, List.forall_mem_cons.mpr ⟨lw_p50, List.forall_mem_cons.mpr ⟨lw_p51, List.forall_mem_cons.mpr ⟨lw_p52, List.forall_mem_cons.mpr ⟨lw_p53, List.forall_mem_cons.mpr ⟨lw_p54, List.forall_mem_cons.mpr ⟨lw_p55, List.forall_mem_cons.mpr ⟨lw_p56, List.forall_mem_cons.mpr ⟨lw_p57, List.forall_mem_cons.mpr ⟨lw_p58, List.forall_mem_cons.mpr ⟨lw_p59, List.forall_mem_cons.mpr ⟨lw_p60, List.forall_mem_cons.mpr ⟨lw_p61, List.forall_mem_cons.mpr ⟨lw_p62, List.forall_mem_cons.mpr ⟨lw_p63, fun _ h => absurd h List.not_mem_nil⟩⟩⟩⟩⟩⟩⟩⟩⟩⟩⟩⟩⟩⟩⟩⟩
theorem lw_p64 : lw_okq (⟨"PegCoatsModel", "ahead", "()V"⟩, 67) := ⟨⟨by decide +kernel, by decide +kernel⟩, List.mem_of_getElem? (i := 1161) (by decide +kernel), List.mem_of_getElem? (i := 1390) (by decide +kernel), List.mem_of_getElem? (i := 1391) (by decide +kernel)⟩
theorem lw_p65 : lw_okq (⟨"PegCoatsModel", "statement", "()V"⟩, 67) := ⟨⟨by decide +kernel, by decide +kernel⟩, List.mem_of_getElem? (i := 1161) (by decide +kernel), List.mem_of_getElem? (i := 1400) (by decide +kernel), List.mem_of_getElem? (i := 1401) (by decide +kernel)⟩
theorem lw_p66 : lw_okq (⟨"PegCoatsModel", "lex", "()V"⟩, 67) := ⟨⟨by decide +kernel, by decide +kernel⟩, List.mem_of_getElem? (i := 1161) (by decide +kernel), List.mem_of_getElem? (i := 1404) (by decide +kernel), List.mem_of_getElem? (i := 1405) (by decide +kernel)⟩
theorem lw_p67 : lw_okq (⟨"PegCoatsModel", "blame", "(II)V"⟩, 67) := ⟨⟨by decide +kernel, by decide +kernel⟩, List.mem_of_getElem? (i := 1161) (by decide +kernel), List.mem_of_getElem? (i := 1408) (by decide +kernel), List.mem_of_getElem? (i := 1409) (by decide +kernel)⟩
theorem lw_p68 : lw_okq (⟨"PegCoatsModel", "isWord", "(J)Z"⟩, 67) := ⟨⟨by decide +kernel, by decide +kernel⟩, List.mem_of_getElem? (i := 1161) (by decide +kernel), List.mem_of_getElem? (i := 1413) (by decide +kernel), List.mem_of_getElem? (i := 1414) (by decide +kernel)⟩
theorem lw_p69 : lw_okq (⟨"PegCoatsModel", "coating", "()V"⟩, 67) := ⟨⟨by decide +kernel, by decide +kernel⟩, List.mem_of_getElem? (i := 1161) (by decide +kernel), List.mem_of_getElem? (i := 1417) (by decide +kernel), List.mem_of_getElem? (i := 1418) (by decide +kernel)⟩
theorem lw_p70 : lw_okq (⟨"PegCoatsModel", "counts", "(Z)Z"⟩, 67) := ⟨⟨by decide +kernel, by decide +kernel⟩, List.mem_of_getElem? (i := 1161) (by decide +kernel), List.mem_of_getElem? (i := 1421) (by decide +kernel), List.mem_of_getElem? (i := 1422) (by decide +kernel)⟩
theorem lw_p71 : lw_okq (⟨"PegCoatsModel", "fresh", "()J"⟩, 67) := ⟨⟨by decide +kernel, by decide +kernel⟩, List.mem_of_getElem? (i := 1161) (by decide +kernel), List.mem_of_getElem? (i := 1425) (by decide +kernel), List.mem_of_getElem? (i := 1426) (by decide +kernel)⟩
theorem lw_p72 : lw_okq (⟨"PegCoatsModel", "isOwn", "(J)Z"⟩, 67) := ⟨⟨by decide +kernel, by decide +kernel⟩, List.mem_of_getElem? (i := 1161) (by decide +kernel), List.mem_of_getElem? (i := 1429) (by decide +kernel), List.mem_of_getElem? (i := 1430) (by decide +kernel)⟩
theorem lw_p73 : lw_okq (⟨"PegCoatsModel", "coatNamed", "(J)I"⟩, 67) := ⟨⟨by decide +kernel, by decide +kernel⟩, List.mem_of_getElem? (i := 1161) (by decide +kernel), List.mem_of_getElem? (i := 1454) (by decide +kernel), List.mem_of_getElem? (i := 1455) (by decide +kernel)⟩
theorem lw_p74 : lw_okq (⟨"PegCoatsModel", "manNamed", "(J)I"⟩, 67) := ⟨⟨by decide +kernel, by decide +kernel⟩, List.mem_of_getElem? (i := 1161) (by decide +kernel), List.mem_of_getElem? (i := 1458) (by decide +kernel), List.mem_of_getElem? (i := 1459) (by decide +kernel)⟩
theorem lw_p75 : lw_okq (⟨"PegCoatsModel", "must", "(J)V"⟩, 67) := ⟨⟨by decide +kernel, by decide +kernel⟩, List.mem_of_getElem? (i := 1161) (by decide +kernel), List.mem_of_getElem? (i := 1462) (by decide +kernel), List.mem_of_getElem? (i := 1463) (by decide +kernel)⟩
theorem lw_p76 : lw_okq (⟨"PegCoatsModel", "number", "(II)I"⟩, 67) := ⟨⟨by decide +kernel, by decide +kernel⟩, List.mem_of_getElem? (i := 1161) (by decide +kernel), List.mem_of_getElem? (i := 1466) (by decide +kernel), List.mem_of_getElem? (i := 1467) (by decide +kernel)⟩
theorem lw_p77 : lw_okq (⟨"PegCoatsModel", "manning", "()V"⟩, 67) := ⟨⟨by decide +kernel, by decide +kernel⟩, List.mem_of_getElem? (i := 1161) (by decide +kernel), List.mem_of_getElem? (i := 1473) (by decide +kernel), List.mem_of_getElem? (i := 1474) (by decide +kernel)⟩
theorem lw_p78 : lw_okq (⟨"PegCoatsModel", "wearing", "()V"⟩, 67) := ⟨⟨by decide +kernel, by decide +kernel⟩, List.mem_of_getElem? (i := 1161) (by decide +kernel), List.mem_of_getElem? (i := 1477) (by decide +kernel), List.mem_of_getElem? (i := 1478) (by decide +kernel)⟩
theorem lw_p79 : lw_okq (⟨"PegCoatsModel", "named", "()J"⟩, 67) := ⟨⟨by decide +kernel, by decide +kernel⟩, List.mem_of_getElem? (i := 1161) (by decide +kernel), List.mem_of_getElem? (i := 1481) (by decide +kernel), List.mem_of_getElem? (i := 1482) (by decide +kernel)⟩
def lw_privs_5 : List (MethodName × Nat) := [(⟨"PegCoatsModel", "ahead", "()V"⟩, 67), (⟨"PegCoatsModel", "statement", "()V"⟩, 67), (⟨"PegCoatsModel", "lex", "()V"⟩, 67), (⟨"PegCoatsModel", "blame", "(II)V"⟩, 67), (⟨"PegCoatsModel", "isWord", "(J)Z"⟩, 67), (⟨"PegCoatsModel", "coating", "()V"⟩, 67), (⟨"PegCoatsModel", "counts", "(Z)Z"⟩, 67), (⟨"PegCoatsModel", "fresh", "()J"⟩, 67), (⟨"PegCoatsModel", "isOwn", "(J)Z"⟩, 67), (⟨"PegCoatsModel", "coatNamed", "(J)I"⟩, 67), (⟨"PegCoatsModel", "manNamed", "(J)I"⟩, 67), (⟨"PegCoatsModel", "must", "(J)V"⟩, 67), (⟨"PegCoatsModel", "number", "(II)I"⟩, 67), (⟨"PegCoatsModel", "manning", "()V"⟩, 67), (⟨"PegCoatsModel", "wearing", "()V"⟩, 67), (⟨"PegCoatsModel", "named", "()J"⟩, 67)]
theorem lw_r5 : ∀ q ∈ lw_privs_5, lw_okq q := List.forall_mem_cons.mpr ⟨lw_p64, List.forall_mem_cons.mpr ⟨lw_p65, List.forall_mem_cons.mpr ⟨lw_p66, List.forall_mem_cons.mpr ⟨lw_p67, List.forall_mem_cons.mpr ⟨lw_p68, List.forall_mem_cons.mpr ⟨lw_p69, List.forall_mem_cons.mpr ⟨lw_p70, List.forall_mem_cons.mpr ⟨lw_p71, List.forall_mem_cons.mpr ⟨lw_p72, List.forall_mem_cons.mpr ⟨lw_p73, List.forall_mem_cons.mpr ⟨lw_p74, List.forall_mem_cons.mpr ⟨lw_p75, List.forall_mem_cons.mpr ⟨lw_p76, List.forall_mem_cons.mpr ⟨lw_p77, List.forall_mem_cons.mpr ⟨lw_p78, List.forall_mem_cons.mpr ⟨lw_p79, fun _ h => absurd h List.not_mem_nil⟩⟩⟩⟩⟩⟩⟩⟩⟩⟩⟩⟩⟩⟩⟩⟩
theorem lw_p80 : lw_okq (⟨"PegCoatsModel", "isWorn", "(I)Z"⟩, 67) := ⟨⟨by decide +kernel, by decide +kernel⟩, List.mem_of_getElem? (i := 1161) (by decide +kernel), List.mem_of_getElem? (i := 1485) (by decide +kernel), List.mem_of_getElem? (i := 1486) (by decide +kernel)⟩
theorem lw_p81 : lw_okq (⟨"PegCoatsModel", "reading", "(I)V"⟩, 67) := ⟨⟨by decide +kernel, by decide +kernel⟩, List.mem_of_getElem? (i := 1161) (by decide +kernel), List.mem_of_getElem? (i := 1489) (by decide +kernel), List.mem_of_getElem? (i := 1490) (by decide +kernel)⟩
theorem lw_p82 : lw_okq (⟨"PegCoatsModel", "reads", "(Z)V"⟩, 67) := ⟨⟨by decide +kernel, by decide +kernel⟩, List.mem_of_getElem? (i := 1161) (by decide +kernel), List.mem_of_getElem? (i := 1493) (by decide +kernel), List.mem_of_getElem? (i := 1494) (by decide +kernel)⟩
theorem lw_p83 : lw_okq (⟨"PegCoatsModel", "pushes", "(I)V"⟩, 67) := ⟨⟨by decide +kernel, by decide +kernel⟩, List.mem_of_getElem? (i := 1161) (by decide +kernel), List.mem_of_getElem? (i := 1497) (by decide +kernel), List.mem_of_getElem? (i := 1498) (by decide +kernel)⟩
theorem lw_p84 : lw_okq (⟨"PegCoatsModel", "operand", "()Z"⟩, 67) := ⟨⟨by decide +kernel, by decide +kernel⟩, List.mem_of_getElem? (i := 1161) (by decide +kernel), List.mem_of_getElem? (i := 1501) (by decide +kernel), List.mem_of_getElem? (i := 1502) (by decide +kernel)⟩
theorem lw_p85 : lw_okq (⟨"PegCoatsModel", "holdsBack", "(I)V"⟩, 67) := ⟨⟨by decide +kernel, by decide +kernel⟩, List.mem_of_getElem? (i := 1161) (by decide +kernel), List.mem_of_getElem? (i := 1508) (by decide +kernel), List.mem_of_getElem? (i := 1509) (by decide +kernel)⟩
theorem lw_p86 : lw_okq (⟨"PegCoatsModel", "isSign", "(I)Z"⟩, 67) := ⟨⟨by decide +kernel, by decide +kernel⟩, List.mem_of_getElem? (i := 1161) (by decide +kernel), List.mem_of_getElem? (i := 1512) (by decide +kernel), List.mem_of_getElem? (i := 1513) (by decide +kernel)⟩
theorem lw_p87 : lw_okq (⟨"PegCoatsModel", "opens", "(I)V"⟩, 67) := ⟨⟨by decide +kernel, by decide +kernel⟩, List.mem_of_getElem? (i := 1161) (by decide +kernel), List.mem_of_getElem? (i := 1516) (by decide +kernel), List.mem_of_getElem? (i := 1517) (by decide +kernel)⟩
theorem lw_p88 : lw_okq (⟨"PegCoatsModel", "add", "(II)V"⟩, 67) := ⟨⟨by decide +kernel, by decide +kernel⟩, List.mem_of_getElem? (i := 1161) (by decide +kernel), List.mem_of_getElem? (i := 1520) (by decide +kernel), List.mem_of_getElem? (i := 1521) (by decide +kernel)⟩
theorem lw_p89 : lw_okq (⟨"PegCoatsModel", "goesOn", "()Z"⟩, 67) := ⟨⟨by decide +kernel, by decide +kernel⟩, List.mem_of_getElem? (i := 1161) (by decide +kernel), List.mem_of_getElem? (i := 1524) (by decide +kernel), List.mem_of_getElem? (i := 1525) (by decide +kernel)⟩
theorem lw_p90 : lw_okq (⟨"PegCoatsModel", "joins", "(I)V"⟩, 67) := ⟨⟨by decide +kernel, by decide +kernel⟩, List.mem_of_getElem? (i := 1161) (by decide +kernel), List.mem_of_getElem? (i := 1528) (by decide +kernel), List.mem_of_getElem? (i := 1529) (by decide +kernel)⟩
theorem lw_p91 : lw_okq (⟨"PegCoatsModel", "firing", "()V"⟩, 67) := ⟨⟨by decide +kernel, by decide +kernel⟩, List.mem_of_getElem? (i := 1161) (by decide +kernel), List.mem_of_getElem? (i := 1535) (by decide +kernel), List.mem_of_getElem? (i := 1536) (by decide +kernel)⟩
theorem lw_p92 : lw_okq (⟨"PegCoatsModel", "finishes", "(I)V"⟩, 67) := ⟨⟨by decide +kernel, by decide +kernel⟩, List.mem_of_getElem? (i := 1161) (by decide +kernel), List.mem_of_getElem? (i := 1539) (by decide +kernel), List.mem_of_getElem? (i := 1540) (by decide +kernel)⟩
theorem lw_p93 : lw_okq (⟨"PegCoatsModel", "must", "(I)V"⟩, 67) := ⟨⟨by decide +kernel, by decide +kernel⟩, List.mem_of_getElem? (i := 1161) (by decide +kernel), List.mem_of_getElem? (i := 1543) (by decide +kernel), List.mem_of_getElem? (i := 1544) (by decide +kernel)⟩
theorem lw_p94 : lw_okq (⟨"PegCoatsModel", "begin", "()V"⟩, 67) := ⟨⟨by decide +kernel, by decide +kernel⟩, List.mem_of_getElem? (i := 1161) (by decide +kernel), List.mem_of_getElem? (i := 1547) (by decide +kernel), List.mem_of_getElem? (i := 1548) (by decide +kernel)⟩
theorem lw_p95 : lw_okq (⟨"PegCoatsModel", "slot", "(I)I"⟩, 67) := ⟨⟨by decide +kernel, by decide +kernel⟩, List.mem_of_getElem? (i := 1161) (by decide +kernel), List.mem_of_getElem? (i := 1563) (by decide +kernel), List.mem_of_getElem? (i := 1564) (by decide +kernel)⟩
def lw_privs_6 : List (MethodName × Nat) := [(⟨"PegCoatsModel", "isWorn", "(I)Z"⟩, 67), (⟨"PegCoatsModel", "reading", "(I)V"⟩, 67), (⟨"PegCoatsModel", "reads", "(Z)V"⟩, 67), (⟨"PegCoatsModel", "pushes", "(I)V"⟩, 67), (⟨"PegCoatsModel", "operand", "()Z"⟩, 67), (⟨"PegCoatsModel", "holdsBack", "(I)V"⟩, 67), (⟨"PegCoatsModel", "isSign", "(I)Z"⟩, 67), (⟨"PegCoatsModel", "opens", "(I)V"⟩, 67), (⟨"PegCoatsModel", "add", "(II)V"⟩, 67), (⟨"PegCoatsModel", "goesOn", "()Z"⟩, 67), (⟨"PegCoatsModel", "joins", "(I)V"⟩, 67), (⟨"PegCoatsModel", "firing", "()V"⟩, 67), (⟨"PegCoatsModel", "finishes", "(I)V"⟩, 67), (⟨"PegCoatsModel", "must", "(I)V"⟩, 67), (⟨"PegCoatsModel", "begin", "()V"⟩, 67), (⟨"PegCoatsModel", "slot", "(I)I"⟩, 67)]
theorem lw_r6 : ∀ q ∈ lw_privs_6, lw_okq q := List.forall_mem_cons.mpr ⟨lw_p80, List.forall_mem_cons.mpr ⟨lw_p81, List.forall_mem_cons.mpr ⟨lw_p82, List.forall_mem_cons.mpr ⟨lw_p83, List.forall_mem_cons.mpr ⟨lw_p84, List.forall_mem_cons.mpr ⟨lw_p85, List.forall_mem_cons.mpr ⟨lw_p86, List.forall_mem_cons.mpr ⟨lw_p87, List.forall_mem_cons.mpr ⟨lw_p88, List.forall_mem_cons.mpr ⟨lw_p89, List.forall_mem_cons.mpr ⟨lw_p90, List.forall_mem_cons.mpr ⟨lw_p91, List.forall_mem_cons.mpr ⟨lw_p92, List.forall_mem_cons.mpr ⟨lw_p93, List.forall_mem_cons.mpr ⟨lw_p94, List.forall_mem_cons.mpr ⟨lw_p95, fun _ h => absurd h List.not_mem_nil⟩⟩⟩⟩⟩⟩⟩⟩⟩⟩⟩⟩⟩⟩⟩⟩
theorem lw_p96 : lw_okq (⟨"PegCoatsModel", "copies", "(II)V"⟩, 67) := ⟨⟨by decide +kernel, by decide +kernel⟩, List.mem_of_getElem? (i := 1161) (by decide +kernel), List.mem_of_getElem? (i := 1567) (by decide +kernel), List.mem_of_getElem? (i := 1568) (by decide +kernel)⟩
theorem lw_p97 : lw_okq (⟨"PegCoatsModel", "isThere", "(II)Z"⟩, 67) := ⟨⟨by decide +kernel, by decide +kernel⟩, List.mem_of_getElem? (i := 1161) (by decide +kernel), List.mem_of_getElem? (i := 1575) (by decide +kernel), List.mem_of_getElem? (i := 1576) (by decide +kernel)⟩
theorem lw_p98 : lw_okq (⟨"PegCoatsModel", "isOnPeg", "(II)Z"⟩, 67) := ⟨⟨by decide +kernel, by decide +kernel⟩, List.mem_of_getElem? (i := 1161) (by decide +kernel), List.mem_of_getElem? (i := 1582) (by decide +kernel), List.mem_of_getElem? (i := 1583) (by decide +kernel)⟩
theorem lw_p99 : lw_okq (⟨"PegCoatsModel", "whoHas", "(II)I"⟩, 67) := ⟨⟨by decide +kernel, by decide +kernel⟩, List.mem_of_getElem? (i := 1161) (by decide +kernel), List.mem_of_getElem? (i := 1586) (by decide +kernel), List.mem_of_getElem? (i := 1587) (by decide +kernel)⟩
theorem lw_p100 : lw_okq (⟨"PegCoatsModel", "isCoat", "(I)Z"⟩, 67) := ⟨⟨by decide +kernel, by decide +kernel⟩, List.mem_of_getElem? (i := 1161) (by decide +kernel), List.mem_of_getElem? (i := 1594) (by decide +kernel), List.mem_of_getElem? (i := 1595) (by decide +kernel)⟩
theorem lw_p101 : lw_okq (⟨"PegCoatsModel", "isMan", "(I)Z"⟩, 67) := ⟨⟨by decide +kernel, by decide +kernel⟩, List.mem_of_getElem? (i := 1161) (by decide +kernel), List.mem_of_getElem? (i := 1598) (by decide +kernel), List.mem_of_getElem? (i := 1599) (by decide +kernel)⟩
theorem lw_p102 : lw_okq (⟨"PegCoatsModel", "warmed", "(III)J"⟩, 67) := ⟨⟨by decide +kernel, by decide +kernel⟩, List.mem_of_getElem? (i := 1161) (by decide +kernel), List.mem_of_getElem? (i := 1615) (by decide +kernel), List.mem_of_getElem? (i := 1616) (by decide +kernel)⟩
theorem lw_p103 : lw_okq (⟨"PegCoatsModel", "warmth", "(IIII)J"⟩, 67) := ⟨⟨by decide +kernel, by decide +kernel⟩, List.mem_of_getElem? (i := 1161) (by decide +kernel), List.mem_of_getElem? (i := 1619) (by decide +kernel), List.mem_of_getElem? (i := 1620) (by decide +kernel)⟩
theorem lw_p104 : lw_okq (⟨"PegCoatsModel", "isTold", "(I)Z"⟩, 67) := ⟨⟨by decide +kernel, by decide +kernel⟩, List.mem_of_getElem? (i := 1161) (by decide +kernel), List.mem_of_getElem? (i := 1623) (by decide +kernel), List.mem_of_getElem? (i := 1624) (by decide +kernel)⟩
theorem lw_p105 : lw_okq (⟨"PegCoatsModel", "reckons", "(I)J"⟩, 67) := ⟨⟨by decide +kernel, by decide +kernel⟩, List.mem_of_getElem? (i := 1161) (by decide +kernel), List.mem_of_getElem? (i := 1627) (by decide +kernel), List.mem_of_getElem? (i := 1628) (by decide +kernel)⟩
theorem lw_p106 : lw_okq (⟨"PegCoatsModel", "isAhead", "(III)Z"⟩, 67) := ⟨⟨by decide +kernel, by decide +kernel⟩, List.mem_of_getElem? (i := 1161) (by decide +kernel), List.mem_of_getElem? (i := 1647) (by decide +kernel), List.mem_of_getElem? (i := 1648) (by decide +kernel)⟩
theorem lw_p107 : lw_okq (⟨"PegCoatsModel", "tries", "(I)V"⟩, 67) := ⟨⟨by decide +kernel, by decide +kernel⟩, List.mem_of_getElem? (i := 1161) (by decide +kernel), List.mem_of_getElem? (i := 1651) (by decide +kernel), List.mem_of_getElem? (i := 1652) (by decide +kernel)⟩
theorem lw_p108 : lw_okq (⟨"PegCoatsModel", "ticks", "(II)I"⟩, 67) := ⟨⟨by decide +kernel, by decide +kernel⟩, List.mem_of_getElem? (i := 1161) (by decide +kernel), List.mem_of_getElem? (i := 1655) (by decide +kernel), List.mem_of_getElem? (i := 1656) (by decide +kernel)⟩
theorem lw_p109 : lw_okq (⟨"PegCoatsModel", "grow", "(II)V"⟩, 67) := ⟨⟨by decide +kernel, by decide +kernel⟩, List.mem_of_getElem? (i := 1161) (by decide +kernel), List.mem_of_getElem? (i := 1659) (by decide +kernel), List.mem_of_getElem? (i := 1660) (by decide +kernel)⟩
theorem lw_p110 : lw_okq (⟨"PegCoatsModel", "isLeaving", "(II)Z"⟩, 67) := ⟨⟨by decide +kernel, by decide +kernel⟩, List.mem_of_getElem? (i := 1161) (by decide +kernel), List.mem_of_getElem? (i := 1664) (by decide +kernel), List.mem_of_getElem? (i := 1665) (by decide +kernel)⟩
theorem lw_p111 : lw_okq (⟨"PegCoatsModel", "warmest", "(III)I"⟩, 67) := ⟨⟨by decide +kernel, by decide +kernel⟩, List.mem_of_getElem? (i := 1161) (by decide +kernel), List.mem_of_getElem? (i := 1668) (by decide +kernel), List.mem_of_getElem? (i := 1669) (by decide +kernel)⟩
def lw_privs_7 : List (MethodName × Nat) := [(⟨"PegCoatsModel", "copies", "(II)V"⟩, 67), (⟨"PegCoatsModel", "isThere", "(II)Z"⟩, 67), (⟨"PegCoatsModel", "isOnPeg", "(II)Z"⟩, 67), (⟨"PegCoatsModel", "whoHas", "(II)I"⟩, 67), (⟨"PegCoatsModel", "isCoat", "(I)Z"⟩, 67), (⟨"PegCoatsModel", "isMan", "(I)Z"⟩, 67), (⟨"PegCoatsModel", "warmed", "(III)J"⟩, 67), (⟨"PegCoatsModel", "warmth", "(IIII)J"⟩, 67), (⟨"PegCoatsModel", "isTold", "(I)Z"⟩, 67), (⟨"PegCoatsModel", "reckons", "(I)J"⟩, 67), (⟨"PegCoatsModel", "isAhead", "(III)Z"⟩, 67), (⟨"PegCoatsModel", "tries", "(I)V"⟩, 67), (⟨"PegCoatsModel", "ticks", "(II)I"⟩, 67), (⟨"PegCoatsModel", "grow", "(II)V"⟩, 67), (⟨"PegCoatsModel", "isLeaving", "(II)Z"⟩, 67), (⟨"PegCoatsModel", "warmest", "(III)I"⟩, 67)]
theorem lw_r7 : ∀ q ∈ lw_privs_7, lw_okq q := List.forall_mem_cons.mpr ⟨lw_p96, List.forall_mem_cons.mpr ⟨lw_p97, List.forall_mem_cons.mpr ⟨lw_p98, List.forall_mem_cons.mpr ⟨lw_p99, List.forall_mem_cons.mpr ⟨lw_p100, List.forall_mem_cons.mpr ⟨lw_p101, List.forall_mem_cons.mpr ⟨lw_p102, List.forall_mem_cons.mpr ⟨lw_p103, List.forall_mem_cons.mpr ⟨lw_p104, List.forall_mem_cons.mpr ⟨lw_p105, List.forall_mem_cons.mpr ⟨lw_p106, List.forall_mem_cons.mpr ⟨lw_p107, List.forall_mem_cons.mpr ⟨lw_p108, List.forall_mem_cons.mpr ⟨lw_p109, List.forall_mem_cons.mpr ⟨lw_p110, List.forall_mem_cons.mpr ⟨lw_p111, fun _ h => absurd h List.not_mem_nil⟩⟩⟩⟩⟩⟩⟩⟩⟩⟩⟩⟩⟩⟩⟩⟩
theorem lw_p112 : lw_okq (⟨"PegCoatsModel", "puts", "(III)V"⟩, 67) := ⟨⟨by decide +kernel, by decide +kernel⟩, List.mem_of_getElem? (i := 1161) (by decide +kernel), List.mem_of_getElem? (i := 1672) (by decide +kernel), List.mem_of_getElem? (i := 1673) (by decide +kernel)⟩
theorem lw_p113 : lw_okq (⟨"PegCoatsModel", "writesDown", "(III)V"⟩, 67) := ⟨⟨by decide +kernel, by decide +kernel⟩, List.mem_of_getElem? (i := 1161) (by decide +kernel), List.mem_of_getElem? (i := 1676) (by decide +kernel), List.mem_of_getElem? (i := 1677) (by decide +kernel)⟩
theorem lw_p114 : lw_okq (⟨"PegCoatsModel", "isHere", "(I)Z"⟩, 67) := ⟨⟨by decide +kernel, by decide +kernel⟩, List.mem_of_getElem? (i := 1161) (by decide +kernel), List.mem_of_getElem? (i := 1688) (by decide +kernel), List.mem_of_getElem? (i := 1689) (by decide +kernel)⟩
theorem lw_p115 : lw_okq (⟨"PegCoatsModel", "fits", "(III)I"⟩, 67) := ⟨⟨by decide +kernel, by decide +kernel⟩, List.mem_of_getElem? (i := 1161) (by decide +kernel), List.mem_of_getElem? (i := 1699) (by decide +kernel), List.mem_of_getElem? (i := 1700) (by decide +kernel)⟩
theorem lw_p116 : lw_okq (⟨"PegCoatsModel", "changesWell", "(II)Z"⟩, 67) := ⟨⟨by decide +kernel, by decide +kernel⟩, List.mem_of_getElem? (i := 1161) (by decide +kernel), List.mem_of_getElem? (i := 1711) (by decide +kernel), List.mem_of_getElem? (i := 1712) (by decide +kernel)⟩
theorem lw_p117 : lw_okq (⟨"PegCoatsModel", "changes", "(III)V"⟩, 67) := ⟨⟨by decide +kernel, by decide +kernel⟩, List.mem_of_getElem? (i := 1161) (by decide +kernel), List.mem_of_getElem? (i := 1715) (by decide +kernel), List.mem_of_getElem? (i := 1716) (by decide +kernel)⟩
theorem lw_p118 : lw_okq (⟨"PegCoatsModel", "hadBits", "(I)I"⟩, 67) := ⟨⟨by decide +kernel, by decide +kernel⟩, List.mem_of_getElem? (i := 1161) (by decide +kernel), List.mem_of_getElem? (i := 1735) (by decide +kernel), List.mem_of_getElem? (i := 1736) (by decide +kernel)⟩
theorem lw_p119 : lw_okq (⟨"PegCoatsModel", "mostBy", "(III)I"⟩, 67) := ⟨⟨by decide +kernel, by decide +kernel⟩, List.mem_of_getElem? (i := 1161) (by decide +kernel), List.mem_of_getElem? (i := 1744) (by decide +kernel), List.mem_of_getElem? (i := 1745) (by decide +kernel)⟩
theorem lw_p120 : lw_okq (⟨"PegCoatsModel", "keeps", "()V"⟩, 67) := ⟨⟨by decide +kernel, by decide +kernel⟩, List.mem_of_getElem? (i := 1161) (by decide +kernel), List.mem_of_getElem? (i := 1752) (by decide +kernel), List.mem_of_getElem? (i := 1753) (by decide +kernel)⟩
theorem lw_p121 : lw_okq (⟨"PegCoatsModel", "draw", "(I)I"⟩, 67) := ⟨⟨by decide +kernel, by decide +kernel⟩, List.mem_of_getElem? (i := 1161) (by decide +kernel), List.mem_of_getElem? (i := 1760) (by decide +kernel), List.mem_of_getElem? (i := 1761) (by decide +kernel)⟩
theorem lw_p122 : lw_okq (⟨"PegCoatsModel", "burns", "()I"⟩, 67) := ⟨⟨by decide +kernel, by decide +kernel⟩, List.mem_of_getElem? (i := 1161) (by decide +kernel), List.mem_of_getElem? (i := 1768) (by decide +kernel), List.mem_of_getElem? (i := 1769) (by decide +kernel)⟩
theorem lw_p123 : lw_okq (⟨"PegCoatsModel", "writes", "(I)V"⟩, 67) := ⟨⟨by decide +kernel, by decide +kernel⟩, List.mem_of_getElem? (i := 1161) (by decide +kernel), List.mem_of_getElem? (i := 1796) (by decide +kernel), List.mem_of_getElem? (i := 1797) (by decide +kernel)⟩
theorem lw_p124 : lw_okq (⟨"PegCoatsModel", "comesOn", "(I)Z"⟩, 67) := ⟨⟨by decide +kernel, by decide +kernel⟩, List.mem_of_getElem? (i := 1161) (by decide +kernel), List.mem_of_getElem? (i := 1808) (by decide +kernel), List.mem_of_getElem? (i := 1809) (by decide +kernel)⟩
theorem lw_p125 : lw_okq (⟨"PegCoatsModel", "manOn", "(II)Z"⟩, 67) := ⟨⟨by decide +kernel, by decide +kernel⟩, List.mem_of_getElem? (i := 1161) (by decide +kernel), List.mem_of_getElem? (i := 1812) (by decide +kernel), List.mem_of_getElem? (i := 1813) (by decide +kernel)⟩
def lw_privs_8 : List (MethodName × Nat) := [(⟨"PegCoatsModel", "puts", "(III)V"⟩, 67), (⟨"PegCoatsModel", "writesDown", "(III)V"⟩, 67), (⟨"PegCoatsModel", "isHere", "(I)Z"⟩, 67), (⟨"PegCoatsModel", "fits", "(III)I"⟩, 67), (⟨"PegCoatsModel", "changesWell", "(II)Z"⟩, 67), (⟨"PegCoatsModel", "changes", "(III)V"⟩, 67), (⟨"PegCoatsModel", "hadBits", "(I)I"⟩, 67), (⟨"PegCoatsModel", "mostBy", "(III)I"⟩, 67), (⟨"PegCoatsModel", "keeps", "()V"⟩, 67), (⟨"PegCoatsModel", "draw", "(I)I"⟩, 67), (⟨"PegCoatsModel", "burns", "()I"⟩, 67), (⟨"PegCoatsModel", "writes", "(I)V"⟩, 67), (⟨"PegCoatsModel", "comesOn", "(I)Z"⟩, 67), (⟨"PegCoatsModel", "manOn", "(II)Z"⟩, 67)]
theorem lw_r8 : ∀ q ∈ lw_privs_8, lw_okq q := List.forall_mem_cons.mpr ⟨lw_p112, List.forall_mem_cons.mpr ⟨lw_p113, List.forall_mem_cons.mpr ⟨lw_p114, List.forall_mem_cons.mpr ⟨lw_p115, List.forall_mem_cons.mpr ⟨lw_p116, List.forall_mem_cons.mpr ⟨lw_p117, List.forall_mem_cons.mpr ⟨lw_p118, List.forall_mem_cons.mpr ⟨lw_p119, List.forall_mem_cons.mpr ⟨lw_p120, List.forall_mem_cons.mpr ⟨lw_p121, List.forall_mem_cons.mpr ⟨lw_p122, List.forall_mem_cons.mpr ⟨lw_p123, List.forall_mem_cons.mpr ⟨lw_p124, List.forall_mem_cons.mpr ⟨lw_p125, fun _ h => absurd h List.not_mem_nil⟩⟩⟩⟩⟩⟩⟩⟩⟩⟩⟩⟩⟩⟩
def lw_privs : List (MethodName × Nat) := lw_privs_1 ++ (lw_privs_2 ++ (lw_privs_3 ++ (lw_privs_4 ++ (lw_privs_5 ++ (lw_privs_6 ++ (lw_privs_7 ++ (lw_privs_8)))))))
def lw_tbl : List Cond := k2_sels lw_privs ++ tables_1
theorem lw_privs_ok : ∀ q ∈ lw_privs, lw_okq q := by
  show ∀ q ∈ lw_privs_1 ++ (lw_privs_2 ++ (lw_privs_3 ++ (lw_privs_4 ++ (lw_privs_5 ++ (lw_privs_6 ++ (lw_privs_7 ++ (lw_privs_8))))))), lw_okq q
  exact List.forall_mem_append.mpr ⟨lw_r1, List.forall_mem_append.mpr ⟨lw_r2, List.forall_mem_append.mpr ⟨lw_r3, List.forall_mem_append.mpr ⟨lw_r4, List.forall_mem_append.mpr ⟨lw_r5, List.forall_mem_append.mpr ⟨lw_r6, List.forall_mem_append.mpr ⟨lw_r7, lw_r8⟩⟩⟩⟩⟩⟩⟩
end
section
/-! the pure machine: cells by numbers (0 the script, 1 the literal, from 2 on what was made), ints, longs and references apart -/
abbrev pj_Z : Type := Nat × (Nat → Nat) × (Nat → Nat) × (Nat → Nat → Option Nat)
abbrev pj_S : Type := pj_Z × (Nat → Nat → Int32) × (Nat → Nat → Int64)
/-- a function of two numbers, changed at a place -/
def pj_u {α : Type} (f : Nat → Nat → α) (a k : Nat) (v : α) : Nat → Nat → α := fun b j => if b = a then (if j = k then v else f b j) else f b j
theorem pj_u_same {α : Type} (f : Nat → Nat → α) (a k : Nat) (v : α) : pj_u f a k v a k = v := by simp [pj_u]
theorem pj_u_row {α : Type} (f : Nat → Nat → α) (a k : Nat) (v : α) {b : Nat} (h : b ≠ a) (j : Nat) : pj_u f a k v b j = f b j := by simp [pj_u, h]
theorem pj_u_col {α : Type} (f : Nat → Nat → α) (a k : Nat) (v : α) (b : Nat) {j : Nat} (h : j ≠ k) : pj_u f a k v b j = f b j := by simp [pj_u, h]
/-- instruction, length, next place, three numbers, an int, a long, a switch's rows -/
abbrev pj_E : Type := Instr × Nat × Nat × (Nat × Nat × Nat) × Int32 × Int64 × List (Int32 × Nat)
abbrev pj_M : Type := List (Nat × pj_E)
abbrev pj_L : Type := List (Option Value)
def pj_c (b : Bool) (K : Prop) : Prop := match b with
  | true => K
  | false => False
def pj_pI (st : List Value) (k : Int32 → List Value → Prop) : Prop := match st with
  | .int x :: r => k x r
  | _ => False
def pj_pL (st : List Value) (k : Int64 → List Value → Prop) : Prop := match st with
  | .long x :: r => k x r
  | _ => False
def pj_pR (st : List Value) (k : Nat → List Value → Prop) : Prop := match st with
  | .ref x :: r => k x r
  | _ => False
def pj_pV (st : List Value) (k : Value → List Value → Prop) : Prop := match st with
  | .int x :: r => k (.int x) r
  | .ref x :: r => k (.ref x) r
  | _ => False
def pj_gI (L : pj_L) (i : Nat) (k : Int32 → Prop) : Prop := match L[i]? with
  | some (some (.int x)) => k x
  | _ => False
def pj_gL (L : pj_L) (i : Nat) (k : Int64 → Prop) : Prop := match L[i]? with
  | some (some (.long x)) => k x
  | _ => False
def pj_gR (L : pj_L) (i : Nat) (k : Nat → Prop) : Prop := match L[i]? with
  | some (some (.ref x)) => k x
  | _ => False
/-- a long just below the place goes -/
def pj_kill (L : pj_L) (i : Nat) : pj_L := match i with
  | 0 => L
  | j + 1 => match L[j]? with
    | some (some (.long _)) => L.set j none
    | _ => L
def pj_s1 (L : pj_L) (i : Nat) (v : Value) : pj_L := (pj_kill L i).set i (some v)
def pj_s2 (L : pj_L) (i : Nat) (v : Value) : pj_L := ((pj_kill L i).set i (some v)).set (i + 1) none
def pj_en : List Value → pj_L
  | [] => []
  | .long x :: vs => some (.long x) :: none :: pj_en vs
  | v :: vs => some v :: pj_en vs
def pj_pad (n : Nat) (L : pj_L) : pj_L := L ++ List.replicate (n - L.length) none
def pj_sw (x : Int32) (rows : List (Int32 × Nat)) (d : Nat) (k : Nat → Prop) : Prop := match rows with
  | [] => k d
  | r :: rs => (x = r.1 → k r.2) ∧ (¬ x = r.1 → pj_sw x rs d k)
/-- a cell is made -/
def pj_new (σ : pj_S) (kind len : Nat) : pj_S := ((σ.1.1 + 1, va_up σ.1.2.1 σ.1.1 kind, va_up σ.1.2.2.1 σ.1.1 len, va_up σ.1.2.2.2 σ.1.1 (fun _ => none)), va_up σ.2.1 σ.1.1 (fun _ => 0), va_up σ.2.2 σ.1.1 (fun _ => 0))
/-- a table of ints is made: the outer row, then the rows -/
def pj_new2 (σ : pj_S) (n len : Nat) : pj_S :=
  ((σ.1.1 + 1 + n, fun k => if k = σ.1.1 then 17 else if σ.1.1 < k ∧ k < σ.1.1 + 1 + n then 13 else σ.1.2.1 k, fun k => if k = σ.1.1 then n else if σ.1.1 < k ∧ k < σ.1.1 + 1 + n then len else σ.1.2.2.1 k,
    fun k => if k = σ.1.1 then (fun j => if j < n then some (σ.1.1 + 1 + j) else none) else σ.1.2.2.2 k),
   fun k => if σ.1.1 < k ∧ k < σ.1.1 + 1 + n then (fun _ => 0) else σ.2.1 k, σ.2.2)
abbrev pj_K : Type := Option Value → pj_S → Prop
abbrev pj_CT : Type := Nat → List Value → pj_S → pj_K → Prop
abbrev pj_G : Type := Nat → pj_L → List Value → pj_S → Nat → Nat → Prop
/-- the chars of the literal -/
def pj_ow (s : String) (i : Nat) : Int32 := Int32.ofNat ((s.toList.getD i 'a').toNat)
def pj_lit : String := "coat  size  pay   man   age   wears of    warms grows leavesfire  year  liningpurse coatedif    or    and   not   all   min   max   "
/-- calls of our own methods -/
def pj_call (C : pj_CT) (go : pj_G) (x y z nx : Nat) (inst : Bool) (L : pj_L) (st : List Value) (σ : pj_S) (bc bs mc ms : Nat) : Prop :=
  pj_c (Nat.ble y st.length && Nat.ble (((st.drop y).map Value.category).sum) 8 && Nat.ble mc bc && Nat.ble ms bs)
    (match inst with
      | true => pj_pR (st.take y).reverse fun a _ => pj_c (Nat.beq (σ.1.2.1 a) z) (C x (st.take y).reverse σ fun r σ' => go nx L (r.toList ++ st.drop y) σ' (bc - mc) (bs - ms))
      | false => C x (st.take y).reverse σ fun r σ' => go nx L (r.toList ++ st.drop y) σ' (bc - mc) (bs - ms))
/-- invokevirtual -/
def pj_iv (C : pj_CT) (go : pj_G) (nx x y z : Nat) (L : pj_L) (st : List Value) (σ : pj_S) (bc bs : Nat) : Prop := match x with
  | 1005 => pj_pI st fun b st => pj_pR st fun a st => pj_c (Nat.beq a 1 && Nat.ble ((st.map Value.category).sum) 8) (vp_in b 132 ∧ go nx L (.int (pj_ow pj_lit b.toNatClampNeg) :: st) σ bc bs)
  | x => pj_call C go x y z nx true L st σ bc bs 0 0
/-- invokespecial -/
def pj_ip (C : pj_CT) (al : Nat → Nat × Nat) (go : pj_G) (nx x y z : Nat) (L : pj_L) (st : List Value) (σ : pj_S) (bc bs : Nat) : Prop := match x with
  | 1000 => pj_pR st fun _ st => pj_c (Nat.ble ((st.map Value.category).sum) 8) (go nx L st σ bc bs)
  | x => pj_call C go x y z nx true L st σ bc bs (al x).1 (al x).2
/-- invokestatic -/
def pj_is (C : pj_CT) (go : pj_G) (nx x y z : Nat) (L : pj_L) (st : List Value) (σ : pj_S) (bc bs : Nat) : Prop := match x with
  | 1001 => pj_pI st fun b st => pj_pI st fun a st => pj_c (Nat.ble ((st.map Value.category).sum) 8) (go nx L (.int (if b < a then b else a) :: st) σ bc bs)
  | 1002 => pj_pI st fun b st => pj_pI st fun a st => pj_c (Nat.ble ((st.map Value.category).sum) 8) (go nx L (.int (if a < b then b else a) :: st) σ bc bs)
  | 1003 => pj_pI st fun a st => pj_c (Nat.ble ((st.map Value.category).sum) 8) (go nx L (.int (if 0 ≤ a then a else 0 - a) :: st) σ bc bs)
  | 1004 => pj_pI st fun n st => pj_pI st fun dp st => pj_pR st fun d st => pj_pI st fun sp st => pj_pR st fun s st => pj_c (Nat.beq (σ.1.2.1 s) 13 && Nat.beq (σ.1.2.1 d) 13 && Nat.ble ((st.map Value.category).sum) 8)
      ((¬ sp < 0 ∧ ¬ dp < 0 ∧ ¬ n < 0 ∧ sp.toNatClampNeg + n.toNatClampNeg ≤ σ.1.2.2.1 s ∧ dp.toNatClampNeg + n.toNatClampNeg ≤ σ.1.2.2.1 d) ∧ go nx L st (σ.1, va_up σ.2.1 d (va_cpy (σ.2.1 s) (σ.2.1 d) sp.toNatClampNeg dp.toNatClampNeg n.toNatClampNeg), σ.2.2) bc bs)
  | x => pj_call C go x y z nx false L st σ bc bs 0 0
/-- one instruction -/
def pj_x (C : pj_CT) (al : Nat → Nat × Nat) (rt : Bool) (Q : pj_K) (go : pj_G) (i : Instr) (nx x y z : Nat) (w : Int32) (v : Int64) (sw : List (Int32 × Nat)) (L : pj_L) (st : List Value) (σ : pj_S) (bc bs : Nat) : Prop :=
  match i with
  | .aload k => pj_gR L k fun a => go nx L (.ref a :: st) σ bc bs
  | .aload_n k => pj_gR L k.val fun a => go nx L (.ref a :: st) σ bc bs
  | .iload k => pj_gI L k fun a => go nx L (.int a :: st) σ bc bs
  | .iload_n k => pj_gI L k.val fun a => go nx L (.int a :: st) σ bc bs
  | .lload k => pj_gL L k fun a => go nx L (.long a :: st) σ bc bs
  | .lload_n k => pj_gL L k.val fun a => go nx L (.long a :: st) σ bc bs
  | .astore k => pj_pR st fun a st => pj_c (Nat.blt k L.length) (go nx (pj_s1 L k (.ref a)) st σ bc bs)
  | .astore_n k => pj_pR st fun a st => pj_c (Nat.blt k.val L.length) (go nx (pj_s1 L k.val (.ref a)) st σ bc bs)
  | .istore k => pj_pI st fun a st => pj_c (Nat.blt k L.length) (go nx (pj_s1 L k (.int a)) st σ bc bs)
  | .istore_n k => pj_pI st fun a st => pj_c (Nat.blt k.val L.length) (go nx (pj_s1 L k.val (.int a)) st σ bc bs)
  | .lstore k => pj_pL st fun a st => pj_c (Nat.blt (k + 1) L.length) (go nx (pj_s2 L k (.long a)) st σ bc bs)
  | .lstore_n k => pj_pL st fun a st => pj_c (Nat.blt (k.val + 1) L.length) (go nx (pj_s2 L k.val (.long a)) st σ bc bs)
  | .iinc k _ => pj_gI L k fun a => go nx (pj_s1 L k (.int (a + w))) st σ bc bs
  | .iconst _ => go nx L (.int w :: st) σ bc bs
  | .bipush _ => go nx L (.int w :: st) σ bc bs
  | .sipush _ => go nx L (.int w :: st) σ bc bs
  | .lconst _ => go nx L (.long v :: st) σ bc bs
  | .ldc _ => match z with
    | 0 => go nx L (.int w :: st) σ bc bs
    | _ => go nx L (.ref 1 :: st) σ bc bs
  | .ldc_w _ => go nx L (.int w :: st) σ bc bs
  | .ldc2_w _ => go nx L (.long v :: st) σ bc bs
  | .iadd => pj_pI st fun b st => pj_pI st fun a st => go nx L (.int (a + b) :: st) σ bc bs
  | .isub => pj_pI st fun b st => pj_pI st fun a st => go nx L (.int (a - b) :: st) σ bc bs
  | .imul => pj_pI st fun b st => pj_pI st fun a st => go nx L (.int (a * b) :: st) σ bc bs
  | .idiv => pj_pI st fun b st => pj_pI st fun a st => ¬ b = 0 ∧ go nx L (.int (a / b) :: st) σ bc bs
  | .irem => pj_pI st fun b st => pj_pI st fun a st => ¬ b = 0 ∧ go nx L (.int (a - a / b * b) :: st) σ bc bs
  | .iand => pj_pI st fun b st => pj_pI st fun a st => go nx L (.int (a &&& b) :: st) σ bc bs
  | .ior => pj_pI st fun b st => pj_pI st fun a st => go nx L (.int (a ||| b) :: st) σ bc bs
  | .ixor => pj_pI st fun b st => pj_pI st fun a st => go nx L (.int (a ^^^ b) :: st) σ bc bs
  | .ishl => pj_pI st fun b st => pj_pI st fun a st => go nx L (.int (a <<< (b &&& 31)) :: st) σ bc bs
  | .ishr => pj_pI st fun b st => pj_pI st fun a st => go nx L (.int (a >>> (b &&& 31)) :: st) σ bc bs
  | .iushr => pj_pI st fun b st => pj_pI st fun a st => go nx L (.int (a.toUInt32 >>> (b.toUInt32 &&& Int32.toUInt32 31)).toInt32 :: st) σ bc bs
  | .ladd => pj_pL st fun b st => pj_pL st fun a st => go nx L (.long (a + b) :: st) σ bc bs
  | .lsub => pj_pL st fun b st => pj_pL st fun a st => go nx L (.long (a - b) :: st) σ bc bs
  | .lmul => pj_pL st fun b st => pj_pL st fun a st => go nx L (.long (a * b) :: st) σ bc bs
  | .ldiv => pj_pL st fun b st => pj_pL st fun a st => ¬ b = 0 ∧ go nx L (.long (a / b) :: st) σ bc bs
  | .lrem => pj_pL st fun b st => pj_pL st fun a st => ¬ b = 0 ∧ go nx L (.long (a - a / b * b) :: st) σ bc bs
  | .land => pj_pL st fun b st => pj_pL st fun a st => go nx L (.long (a &&& b) :: st) σ bc bs
  | .lor => pj_pL st fun b st => pj_pL st fun a st => go nx L (.long (a ||| b) :: st) σ bc bs
  | .lshl => pj_pI st fun b st => pj_pL st fun a st => go nx L (.long (a <<< (b.toInt64 &&& 63)) :: st) σ bc bs
  | .lshr => pj_pI st fun b st => pj_pL st fun a st => go nx L (.long (a >>> (b.toInt64 &&& 63)) :: st) σ bc bs
  | .lcmp => pj_pL st fun b st => pj_pL st fun a st => go nx L (.int (lg_cmp a b) :: st) σ bc bs
  | .i2l => pj_pI st fun a st => go nx L (.long a.toInt64 :: st) σ bc bs
  | .l2i => pj_pL st fun a st => go nx L (.int a.toInt32 :: st) σ bc bs
  | .dup => pj_pV st fun a st => go nx L (a :: a :: st) σ bc bs
  | .dup2 => pj_pV st fun a st => pj_pV st fun b st => go nx L (a :: b :: a :: b :: st) σ bc bs
  | .pop => pj_pV st fun _ st => go nx L st σ bc bs
  | .if_icmp cd _ => pj_pI st fun b st => pj_pI st fun a st => match cd with
    | .eq => (a = b → go x L st σ bc bs) ∧ (¬ a = b → go nx L st σ bc bs)
    | .ne => (¬ a = b → go x L st σ bc bs) ∧ (a = b → go nx L st σ bc bs)
    | .lt => (a < b → go x L st σ bc bs) ∧ (¬ a < b → go nx L st σ bc bs)
    | .ge => (b ≤ a → go x L st σ bc bs) ∧ (¬ b ≤ a → go nx L st σ bc bs)
    | .gt => (b < a → go x L st σ bc bs) ∧ (¬ b < a → go nx L st σ bc bs)
    | .le => (a ≤ b → go x L st σ bc bs) ∧ (¬ a ≤ b → go nx L st σ bc bs)
  | .ifCond cd _ => pj_pI st fun a st => match cd with
    | .eq => (a = 0 → go x L st σ bc bs) ∧ (¬ a = 0 → go nx L st σ bc bs)
    | .ne => (¬ a = 0 → go x L st σ bc bs) ∧ (a = 0 → go nx L st σ bc bs)
    | .lt => (a < 0 → go x L st σ bc bs) ∧ (¬ a < 0 → go nx L st σ bc bs)
    | .ge => (0 ≤ a → go x L st σ bc bs) ∧ (¬ 0 ≤ a → go nx L st σ bc bs)
    | .gt => (0 < a → go x L st σ bc bs) ∧ (¬ 0 < a → go nx L st σ bc bs)
    | .le => (a ≤ 0 → go x L st σ bc bs) ∧ (¬ a ≤ 0 → go nx L st σ bc bs)
  | .goto _ => go x L st σ bc bs
  | .tableswitch _ _ _ _ => pj_pI st fun a st => pj_sw a sw x fun t => go t L st σ bc bs
  | .lookupswitch _ _ => pj_pI st fun a st => pj_sw a sw x fun t => go t L st σ bc bs
  | .getfield _ => pj_pR st fun a st => pj_c (Nat.beq (σ.1.2.1 a) x) (match z with
    | 0 => go nx L (.int (σ.2.1 a y) :: st) σ bc bs
    | 1 => go nx L (.long (σ.2.2 a y) :: st) σ bc bs
    | 2 => pj_c (σ.1.2.2.2 a y).isSome (go nx L (.ref ((σ.1.2.2.2 a y).getD 0) :: st) σ bc bs)
    | _ => go nx L (.int (σ.2.1 a y) :: st) σ bc bs)
  | .putfield _ => match z with
    | 0 => pj_pI st fun b st => pj_pR st fun a st => pj_c (Nat.beq (σ.1.2.1 a) x) (go nx L st (σ.1, pj_u σ.2.1 a y b, σ.2.2) bc bs)
    | 1 => pj_pL st fun b st => pj_pR st fun a st => pj_c (Nat.beq (σ.1.2.1 a) x) (go nx L st (σ.1, σ.2.1, pj_u σ.2.2 a y b) bc bs)
    | 2 => pj_pR st fun b st => pj_pR st fun a st => pj_c (Nat.beq (σ.1.2.1 a) x) (go nx L st ((σ.1.1, σ.1.2.1, σ.1.2.2.1, pj_u σ.1.2.2.2 a y (some b)), σ.2) bc bs)
    | _ => pj_pI st fun b st => pj_pR st fun a st => pj_c (Nat.beq (σ.1.2.1 a) x) (b &&& 1 = b ∧ go nx L st (σ.1, pj_u σ.2.1 a y b, σ.2.2) bc bs)
  | .iaload => pj_pI st fun b st => pj_pR st fun a st => pj_c (Nat.beq (σ.1.2.1 a) 13 || Nat.beq (σ.1.2.1 a) 18) (vp_in b (σ.1.2.2.1 a) ∧ go nx L (.int (σ.2.1 a b.toNatClampNeg) :: st) σ bc bs)
  | .laload => pj_pI st fun b st => pj_pR st fun a st => pj_c (Nat.beq (σ.1.2.1 a) 14) (vp_in b (σ.1.2.2.1 a) ∧ go nx L (.long (σ.2.2 a b.toNatClampNeg) :: st) σ bc bs)
  | .baload => pj_pI st fun b st => pj_pR st fun a st => pj_c (Nat.beq (σ.1.2.1 a) 15) (vp_in b (σ.1.2.2.1 a) ∧ go nx L (.int (σ.2.1 a b.toNatClampNeg) :: st) σ bc bs)
  | .aaload => pj_pI st fun b st => pj_pR st fun a st => pj_c (Nat.beq (σ.1.2.1 a) 16 || Nat.beq (σ.1.2.1 a) 17) (vp_in b (σ.1.2.2.1 a) ∧ pj_c (σ.1.2.2.2 a b.toNatClampNeg).isSome (go nx L (.ref ((σ.1.2.2.2 a b.toNatClampNeg).getD 0) :: st) σ bc bs))
  | .iastore => pj_pI st fun q st => pj_pI st fun b st => pj_pR st fun a st => pj_c (Nat.beq (σ.1.2.1 a) 13) (vp_in b (σ.1.2.2.1 a) ∧ go nx L st (σ.1, pj_u σ.2.1 a b.toNatClampNeg q, σ.2.2) bc bs)
  | .lastore => pj_pL st fun q st => pj_pI st fun b st => pj_pR st fun a st => pj_c (Nat.beq (σ.1.2.1 a) 14) (vp_in b (σ.1.2.2.1 a) ∧ go nx L st (σ.1, σ.2.1, pj_u σ.2.2 a b.toNatClampNeg q) bc bs)
  | .bastore => pj_pI st fun q st => pj_pI st fun b st => pj_pR st fun a st => pj_c (Nat.beq (σ.1.2.1 a) 15) (vp_in b (σ.1.2.2.1 a) ∧ go nx L st (σ.1, pj_u σ.2.1 a b.toNatClampNeg (q &&& 1), σ.2.2) bc bs)
  | .aastore => pj_pR st fun q st => pj_pI st fun b st => pj_pR st fun a st => pj_c (Nat.beq (σ.1.2.1 a) 16 && Nat.beq (σ.1.2.1 q) 7) (vp_in b (σ.1.2.2.1 a) ∧ go nx L st ((σ.1.1, σ.1.2.1, σ.1.2.2.1, pj_u σ.1.2.2.2 a b.toNatClampNeg (some q)), σ.2) bc bs)
  | .arraylength => pj_pR st fun a st => pj_c (Nat.ble 13 (σ.1.2.1 a) && Nat.ble (σ.1.2.1 a) 18) (go nx L (.int (nI (σ.1.2.2.1 a)) :: st) σ bc bs)
  | .newarray _ => pj_pI st fun n st => pj_c (Nat.ble 1 bc && Nat.ble n.toNatClampNeg bs && Nat.ble n.toNatClampNeg 100000 && !decide (n < 0)) (go nx L (.ref σ.1.1 :: st) (pj_new σ x n.toNatClampNeg) (bc - 1) (bs - n.toNatClampNeg))
  | .anewarray _ => pj_pI st fun n st => pj_c (Nat.ble 1 bc && Nat.ble n.toNatClampNeg bs && Nat.ble n.toNatClampNeg 100000 && !decide (n < 0)) (go nx L (.ref σ.1.1 :: st) (pj_new σ 16 n.toNatClampNeg) (bc - 1) (bs - n.toNatClampNeg))
  | .multianewarray _ _ => pj_pI st fun k st => pj_pI st fun n st => pj_c (Nat.ble (1 + n.toNatClampNeg) bc && Nat.ble (n.toNatClampNeg + n.toNatClampNeg * k.toNatClampNeg) bs && Nat.ble n.toNatClampNeg 1000 && Nat.ble k.toNatClampNeg 1000 && !decide (n < 0) && !decide (k < 0)) (go nx L (.ref σ.1.1 :: st) (pj_new2 σ n.toNatClampNeg k.toNatClampNeg) (bc - 1 - n.toNatClampNeg) (bs - n.toNatClampNeg - n.toNatClampNeg * k.toNatClampNeg))
  | .new _ => pj_c (Nat.ble 1 bc && Nat.ble y bs) (go nx L (.ref σ.1.1 :: st) (pj_new σ x 0) (bc - 1) (bs - y))
  | .invokevirtual _ => pj_iv C go nx x y z L st σ bc bs
  | .invokespecial _ => pj_ip C al go nx x y z L st σ bc bs
  | .invokestatic _ => pj_is C go nx x y z L st σ bc bs
  | .ireturn => pj_pI st fun a _ => pj_c (Nat.beq bc 0 && Nat.beq bs 0) (match rt with
    | true => a &&& 1 = a ∧ Q (some (.int a)) σ
    | false => Q (some (.int a)) σ)
  | .lreturn => pj_pL st fun a _ => pj_c (Nat.beq bc 0 && Nat.beq bs 0) (Q (some (.long a)) σ)
  | .return_ => pj_c (Nat.beq bc 0 && Nat.beq bs 0) (Q none σ)
  | _ => False
/-- the instruction at a place -/
def pj_1 (C : pj_CT) (al : Nat → Nat × Nat) (M : pj_M) (rt : Bool) (Q : pj_K) (go : pj_G) (pc : Nat) (L : pj_L) (st : List Value) (σ : pj_S) (bc bs : Nat) : Prop :=
  match M.lookup pc with
  | none => False
  | some (i, _, nx, (x, y, z), w, v, sw) => pj_x C al rt Q go i nx x y z w v sw L st σ bc bs
/-- from a place on to the end: the least that holds it -/
def pj_R (C : pj_CT) (al : Nat → Nat × Nat) (M : pj_M) (rt : Bool) (Q : pj_K) : pj_G := fun pc L st σ bc bs =>
  ∀ P : pj_G, (∀ pc L st σ bc bs, pj_1 C al M rt Q P pc L st σ bc bs → P pc L st σ bc bs) → P pc L st σ bc bs
/-- a method: name, bytes, locals, answer's type; its class, whether the answer is a boolean; its code -/
abbrev pj_T : Type := (MethodName × ByteArray × Nat × Option FieldType) × (Nat × Bool) × pj_M
/-- calls, to a depth -/
def pj_C (T : Nat → Option pj_T) (al : Nat → Nat × Nat) : Nat → pj_CT
  | 0 => fun _ _ _ _ => False
  | d + 1 => fun mi args σ K => match T mi with
    | none => False
    | some t => pj_R (pj_C T al d) al t.2.2 t.2.1.2 K 0 (pj_pad t.1.2.2.1 (pj_en args)) [] σ (al mi).1 (al mi).2
/-- steps up to the next place of cuts -/
def pj_v (C : pj_CT) (al : Nat → Nat × Nat) (M : pj_M) (rt : Bool) (Q : pj_K) (cut : Nat → Bool) : Nat → pj_G
  | 0 => fun _ _ _ _ _ _ => False
  | n + 1 => fun pc L st σ bc bs => match cut pc with
    | true => pj_R C al M rt Q pc L st σ bc bs
    | false => pj_1 C al M rt Q (pj_v C al M rt Q cut n) pc L st σ bc bs
end
section
/-! the pure machine asks no more of more -/
def pj_le (C C' : pj_CT) : Prop := ∀ (mi : Nat) (args : List Value) (σ : pj_S) (K K' : pj_K), (∀ r s, K r s → K' r s) → C mi args σ K → C' mi args σ K'
theorem pj_c_m {b : Bool} {K K' : Prop} (h : K → K') : pj_c b K → pj_c b K' := by cases b <;> exact fun q => by first | exact h q | exact q
theorem pj_pI_m {st : List Value} {k k' : Int32 → List Value → Prop} (h : ∀ x r, k x r → k' x r) : pj_pI st k → pj_pI st k' := by
  rcases st with _ | ⟨v, r⟩
  · exact id
  · cases v <;> first | exact h _ _ | exact id
theorem pj_pL_m {st : List Value} {k k' : Int64 → List Value → Prop} (h : ∀ x r, k x r → k' x r) : pj_pL st k → pj_pL st k' := by
  rcases st with _ | ⟨v, r⟩
  · exact id
  · cases v <;> first | exact h _ _ | exact id
theorem pj_pR_m {st : List Value} {k k' : Nat → List Value → Prop} (h : ∀ x r, k x r → k' x r) : pj_pR st k → pj_pR st k' := by
  rcases st with _ | ⟨v, r⟩
  · exact id
  · cases v <;> first | exact h _ _ | exact id
theorem pj_pV_m {st : List Value} {k k' : Value → List Value → Prop} (h : ∀ x r, k x r → k' x r) : pj_pV st k → pj_pV st k' := by
  rcases st with _ | ⟨v, r⟩
  · exact id
  · cases v <;> first | exact h _ _ | exact id
theorem pj_gI_m {L : pj_L} {i : Nat} {k k' : Int32 → Prop} (h : ∀ x, k x → k' x) : pj_gI L i k → pj_gI L i k' := by
  unfold pj_gI
  rcases L[i]? with _ | _ | v
  · exact id
  · exact id
  · cases v <;> first | exact h _ | exact id
theorem pj_gL_m {L : pj_L} {i : Nat} {k k' : Int64 → Prop} (h : ∀ x, k x → k' x) : pj_gL L i k → pj_gL L i k' := by
  unfold pj_gL
  rcases L[i]? with _ | _ | v
  · exact id
  · exact id
  · cases v <;> first | exact h _ | exact id
theorem pj_gR_m {L : pj_L} {i : Nat} {k k' : Nat → Prop} (h : ∀ x, k x → k' x) : pj_gR L i k → pj_gR L i k' := by
  unfold pj_gR
  rcases L[i]? with _ | _ | v
  · exact id
  · exact id
  · cases v <;> first | exact h _ | exact id
theorem pj_sw_m {x : Int32} {d : Nat} {k k' : Nat → Prop} (h : ∀ t, k t → k' t) : ∀ rows : List (Int32 × Nat), pj_sw x rows d k → pj_sw x rows d k'
  | [] => h d
  | r :: rs => fun q => ⟨fun c => h _ (q.1 c), fun c => pj_sw_m h rs (q.2 c)⟩
theorem pj_call_m {C C' : pj_CT} (hC : pj_le C C') {go go' : pj_G} (hg : ∀ pc L st σ bc bs, go pc L st σ bc bs → go' pc L st σ bc bs) {x y z nx : Nat} {inst : Bool} {L : pj_L} {st : List Value} {σ : pj_S} {bc bs mc ms : Nat} :
    pj_call C go x y z nx inst L st σ bc bs mc ms → pj_call C' go' x y z nx inst L st σ bc bs mc ms := by
  refine pj_c_m ?_
  cases inst
  · exact hC _ _ _ _ _ (fun _ _ => hg _ _ _ _ _ _)
  · exact pj_pR_m (fun _ _ => pj_c_m (hC _ _ _ _ _ (fun _ _ => hg _ _ _ _ _ _)))
theorem pj_iv_m {C C' : pj_CT} (hC : pj_le C C') {go go' : pj_G} (hg : ∀ pc L st σ bc bs, go pc L st σ bc bs → go' pc L st σ bc bs) {nx x y z : Nat} {L : pj_L} {st : List Value} {σ : pj_S} {bc bs : Nat} : pj_iv C go nx x y z L st σ bc bs → pj_iv C' go' nx x y z L st σ bc bs := by
  unfold pj_iv
  split
  · exact pj_pI_m fun _ _ => pj_pR_m fun _ _ => pj_c_m fun h => ⟨h.1, hg _ _ _ _ _ _ h.2⟩
  · exact pj_call_m hC hg
theorem pj_ip_m {C C' : pj_CT} (hC : pj_le C C') {al : Nat → Nat × Nat} {go go' : pj_G} (hg : ∀ pc L st σ bc bs, go pc L st σ bc bs → go' pc L st σ bc bs) {nx x y z : Nat} {L : pj_L} {st : List Value} {σ : pj_S} {bc bs : Nat} : pj_ip C al go nx x y z L st σ bc bs → pj_ip C' al go' nx x y z L st σ bc bs := by
  unfold pj_ip
  split
  · exact pj_pR_m fun _ _ => pj_c_m (hg _ _ _ _ _ _)
  · exact pj_call_m hC hg
theorem pj_is_m {C C' : pj_CT} (hC : pj_le C C') {go go' : pj_G} (hg : ∀ pc L st σ bc bs, go pc L st σ bc bs → go' pc L st σ bc bs) {nx x y z : Nat} {L : pj_L} {st : List Value} {σ : pj_S} {bc bs : Nat} : pj_is C go nx x y z L st σ bc bs → pj_is C' go' nx x y z L st σ bc bs := by
  unfold pj_is
  split
  · exact pj_pI_m fun _ _ => pj_pI_m fun _ _ => pj_c_m (hg _ _ _ _ _ _)
  · exact pj_pI_m fun _ _ => pj_pI_m fun _ _ => pj_c_m (hg _ _ _ _ _ _)
  · exact pj_pI_m fun _ _ => pj_c_m (hg _ _ _ _ _ _)
  · exact pj_pI_m fun _ _ => pj_pI_m fun _ _ => pj_pR_m fun _ _ => pj_pI_m fun _ _ => pj_pR_m fun _ _ => pj_c_m fun h => ⟨h.1, hg _ _ _ _ _ _ h.2⟩
  · exact pj_call_m hC hg
set_option maxHeartbeats 4000000 in
theorem pj_x_m {C C' : pj_CT} (hC : pj_le C C') {al : Nat → Nat × Nat} {rt : Bool} {Q Q' : pj_K} (hQ : ∀ r s, Q r s → Q' r s) {go go' : pj_G} (hg : ∀ pc L st σ bc bs, go pc L st σ bc bs → go' pc L st σ bc bs)
    {i : Instr} {nx x y z : Nat} {w : Int32} {v : Int64} {sw : List (Int32 × Nat)} {L : pj_L} {st : List Value} {σ : pj_S} {bc bs : Nat} :
    pj_x C al rt Q go i nx x y z w v sw L st σ bc bs → pj_x C' al rt Q' go' i nx x y z w v sw L st σ bc bs := by
  have g : ∀ {pc L st σ bc bs}, go pc L st σ bc bs → go' pc L st σ bc bs := fun {_ _ _ _ _ _} h => hg _ _ _ _ _ _ h
  cases i
  case ldc k => rcases z with _ | z <;> exact g
  case if_icmp cd k => exact pj_pI_m fun _ _ => pj_pI_m fun _ _ h => by cases cd <;> exact ⟨fun c => g (h.1 c), fun c => g (h.2 c)⟩
  case ifCond cd k => exact pj_pI_m fun _ _ h => by cases cd <;> exact ⟨fun c => g (h.1 c), fun c => g (h.2 c)⟩
  case getfield k => exact pj_pR_m fun _ _ => pj_c_m (by rcases z with _ | _ | _ | z <;> first | exact g | exact pj_c_m g)
  case putfield k =>
    rcases z with _ | _ | _ | z
    · exact pj_pI_m fun _ _ => pj_pR_m fun _ _ => pj_c_m g
    · exact pj_pL_m fun _ _ => pj_pR_m fun _ _ => pj_c_m g
    · exact pj_pR_m fun _ _ => pj_pR_m fun _ _ => pj_c_m g
    · exact pj_pI_m fun _ _ => pj_pR_m fun _ _ => pj_c_m fun h => ⟨h.1, g h.2⟩
  case tableswitch a b c d => exact pj_pI_m fun _ _ => pj_sw_m (fun _ => g) _
  case lookupswitch a b => exact pj_pI_m fun _ _ => pj_sw_m (fun _ => g) _
  case invokevirtual k => exact pj_iv_m hC hg
  case invokespecial k => exact pj_ip_m hC hg
  case invokestatic k => exact pj_is_m hC hg
  case ireturn => exact pj_pI_m fun _ _ => pj_c_m (by cases rt <;> first | exact hQ _ _ | exact fun h => ⟨h.1, hQ _ _ h.2⟩)
  case lreturn => exact pj_pL_m fun _ _ => pj_c_m (hQ _ _)
  case return_ => exact pj_c_m (hQ _ _)
  case dup2 => exact pj_pV_m (st := st) (k := fun a st => pj_pV st fun b st => go nx L (a :: b :: a :: b :: st) σ bc bs) (k' := fun a st => pj_pV st fun b st => go' nx L (a :: b :: a :: b :: st) σ bc bs) fun a r => pj_pV_m (st := r) (k := fun b st => go nx L (a :: b :: a :: b :: st) σ bc bs) (k' := fun b st => go' nx L (a :: b :: a :: b :: st) σ bc bs) fun _ _ => g
  case dup => exact pj_pV_m (st := st) (k := fun a st => go nx L (a :: a :: st) σ bc bs) (k' := fun a st => go' nx L (a :: a :: st) σ bc bs) fun _ _ => g
  case pop => exact pj_pV_m (st := st) (k := fun a st => go nx L st σ bc bs) (k' := fun a st => go' nx L st σ bc bs) fun _ _ => g
  case aaload => exact pj_pI_m fun _ _ => pj_pR_m fun _ _ => pj_c_m fun h => ⟨h.1, pj_c_m g h.2⟩
  case arraylength => exact pj_pR_m fun _ _ => pj_c_m g
  case newarray k => exact pj_pI_m fun _ _ => pj_c_m g
  case anewarray k => exact pj_pI_m fun _ _ => pj_c_m g
  case multianewarray k j => exact pj_pI_m fun _ _ => pj_pI_m fun _ _ => pj_c_m g
  case new k => exact pj_c_m g
  all_goals first
    | exact g
    | exact pj_gR_m fun _ => g
    | exact pj_gI_m fun _ => g
    | exact pj_gL_m fun _ => g
    | exact pj_pR_m fun _ _ => pj_c_m g
    | exact pj_pI_m fun _ _ => pj_c_m g
    | exact pj_pL_m fun _ _ => pj_c_m g
    | exact pj_pI_m fun _ _ => pj_pI_m fun _ _ => g
    | exact pj_pL_m fun _ _ => pj_pL_m fun _ _ => g
    | exact pj_pI_m fun _ _ => pj_pL_m fun _ _ => g
    | exact pj_pI_m fun _ _ => pj_pI_m fun _ _ h => ⟨h.1, g h.2⟩
    | exact pj_pL_m fun _ _ => pj_pL_m fun _ _ h => ⟨h.1, g h.2⟩
    | exact pj_pI_m fun _ _ => g
    | exact pj_pL_m fun _ _ => g
    | exact pj_pV_m fun _ _ => g
    | exact pj_pI_m fun _ _ => pj_pR_m fun _ _ => pj_c_m fun h => ⟨h.1, g h.2⟩
    | exact pj_pI_m fun _ _ => pj_pI_m fun _ _ => pj_pR_m fun _ _ => pj_c_m fun h => ⟨h.1, g h.2⟩
    | exact pj_pL_m fun _ _ => pj_pI_m fun _ _ => pj_pR_m fun _ _ => pj_c_m fun h => ⟨h.1, g h.2⟩
    | exact pj_pR_m fun _ _ => pj_pI_m fun _ _ => pj_pR_m fun _ _ => pj_c_m fun h => ⟨h.1, g h.2⟩
    | exact id
section PJ
variable {C C' : pj_CT} {al : Nat → Nat × Nat} {M : pj_M} {rt : Bool} {Q Q' : pj_K} {pc : Nat} {L : pj_L} {st : List Value} {σ : pj_S} {bc bs : Nat}
theorem pj_1_m (hC : pj_le C C') (hQ : ∀ r s, Q r s → Q' r s) {go go' : pj_G} (hg : ∀ pc L st σ bc bs, go pc L st σ bc bs → go' pc L st σ bc bs) :
    pj_1 C al M rt Q go pc L st σ bc bs → pj_1 C' al M rt Q' go' pc L st σ bc bs := by
  unfold pj_1
  cases M.lookup pc with
  | none => exact id
  | some e => exact pj_x_m hC hQ hg
/-- one instruction on -/
theorem pj_R_in (hC : pj_le C C) (h : pj_1 C al M rt Q (pj_R C al M rt Q) pc L st σ bc bs) : pj_R C al M rt Q pc L st σ bc bs := fun P hP =>
  hP _ _ _ _ _ _ (pj_1_m hC (fun _ _ q => q) (fun _ _ _ _ _ _ q => q P hP) h)
theorem pj_R_m (hC : pj_le C C') (hC' : pj_le C' C') (hQ : ∀ r s, Q r s → Q' r s) (h : pj_R C al M rt Q pc L st σ bc bs) : pj_R C' al M rt Q' pc L st σ bc bs :=
  h (pj_R C' al M rt Q') (fun _ _ _ _ _ _ q => pj_R_in hC' (pj_1_m hC hQ (fun _ _ _ _ _ _ q => q) q))
theorem pj_v_R (hC : pj_le C C) {cut : Nat → Bool} : ∀ (n pc : Nat) (L : pj_L) (st : List Value) (σ : pj_S) (bc bs : Nat), pj_v C al M rt Q cut n pc L st σ bc bs → pj_R C al M rt Q pc L st σ bc bs
  | 0, _, _, _, _, _, _ => fun h => h.elim
  | n + 1, pc, L, st, σ, bc, bs => by
    unfold pj_v
    cases cut pc with
    | true => exact id
    | false => exact fun h => pj_R_in hC (pj_1_m hC (fun _ _ q => q) (pj_v_R hC n) h)
/-- from a place on, up to the cuts -/
theorem pj_go (hC : pj_le C C) (cut : Nat → Bool) (n : Nat) (h : pj_1 C al M rt Q (pj_v C al M rt Q cut n) pc L st σ bc bs) : pj_R C al M rt Q pc L st σ bc bs :=
  pj_R_in hC (pj_1_m hC (fun _ _ q => q) (pj_v_R hC n) h)
end PJ
theorem pj_C_le (T : Nat → Option pj_T) (al : Nat → Nat × Nat) : ∀ d, pj_le (pj_C T al d) (pj_C T al d) ∧ pj_le (pj_C T al d) (pj_C T al (d + 1))
  | 0 => ⟨fun _ _ _ _ _ _ h => h.elim, fun _ _ _ _ _ _ h => h.elim⟩
  | d + 1 => by
    obtain ⟨h1, h2⟩ := pj_C_le T al d
    have key : ∀ {d d' : Nat}, pj_le (pj_C T al d) (pj_C T al d') → pj_le (pj_C T al d') (pj_C T al d') → pj_le (pj_C T al (d + 1)) (pj_C T al (d' + 1)) := by
      intro d d' a b mi args σ K K' hK
      unfold pj_C
      cases T mi with
      | none => exact id
      | some t => exact pj_R_m a b hK
    have k1 := key h1 h1
    refine ⟨k1, ?_⟩
    exact key h2 (fun mi args σ K K' hK => k1 mi args σ K K' hK)
end
