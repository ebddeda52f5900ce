section
-- ===== PART A: goes FIRST, ahead of the names: the tables' words, and 'selects' of the private methods out of them =====
/-- a private method of a class that the tables say can be made, by its rows of tables_1 -/
def lw_okq (q : MethodName × Nat) : Prop := (q.1.cls ≠ "java/lang/invoke/MethodHandle" ∧ q.1.cls ≠ "java/lang/invoke/VarHandle") ∧ Cond.instantiable q.1.cls q.2 ∈ tables_1 ∧ Cond.privateMethod q.1 ∈ tables_1 ∧ Cond.instanceMethod q.1 ∈ tables_1
theorem lw_p0 : lw_okq (⟨"PegCoats", "refuse", "(I)I"⟩, 16) := ⟨⟨by decide +kernel, by decide +kernel⟩, List.mem_of_getElem? (i := 22) (by decide +kernel), List.mem_of_getElem? (i := 543) (by decide +kernel), List.mem_of_getElem? (i := 544) (by decide +kernel)⟩
theorem lw_p1 : lw_okq (⟨"PegCoats", "deny", "(I)Z"⟩, 16) := ⟨⟨by decide +kernel, by decide +kernel⟩, List.mem_of_getElem? (i := 22) (by decide +kernel), List.mem_of_getElem? (i := 559) (by decide +kernel), List.mem_of_getElem? (i := 560) (by decide +kernel)⟩
theorem lw_p2 : lw_okq (⟨"PegCoats$Scanner", "ownWord", "(I)I"⟩, 8) := ⟨⟨by decide +kernel, by decide +kernel⟩, List.mem_of_getElem? (i := 150) (by decide +kernel), List.mem_of_getElem? (i := 593) (by decide +kernel), List.mem_of_getElem? (i := 594) (by decide +kernel)⟩
theorem lw_p3 : lw_okq (⟨"PegCoats$Reading", "readStatement", "()V"⟩, 6) := ⟨⟨by decide +kernel, by decide +kernel⟩, List.mem_of_getElem? (i := 144) (by decide +kernel), List.mem_of_getElem? (i := 601) (by decide +kernel), List.mem_of_getElem? (i := 602) (by decide +kernel)⟩
theorem lw_p4 : lw_okq (⟨"PegCoats$Reading", "fail", "(II)V"⟩, 6) := ⟨⟨by decide +kernel, by decide +kernel⟩, List.mem_of_getElem? (i := 144) (by decide +kernel), List.mem_of_getElem? (i := 605) (by decide +kernel), List.mem_of_getElem? (i := 606) (by decide +kernel)⟩
theorem lw_p5 : lw_okq (⟨"PegCoats$Reading", "readCoat", "()V"⟩, 6) := ⟨⟨by decide +kernel, by decide +kernel⟩, List.mem_of_getElem? (i := 144) (by decide +kernel), List.mem_of_getElem? (i := 609) (by decide +kernel), List.mem_of_getElem? (i := 610) (by decide +kernel)⟩
theorem lw_p6 : lw_okq (⟨"PegCoats$Reading", "takeNewName", "()I"⟩, 6) := ⟨⟨by decide +kernel, by decide +kernel⟩, List.mem_of_getElem? (i := 144) (by decide +kernel), List.mem_of_getElem? (i := 614) (by decide +kernel), List.mem_of_getElem? (i := 615) (by decide +kernel)⟩
theorem lw_p7 : lw_okq (⟨"PegCoats$Reading", "peekName", "()I"⟩, 6) := ⟨⟨by decide +kernel, by decide +kernel⟩, List.mem_of_getElem? (i := 144) (by decide +kernel), List.mem_of_getElem? (i := 618) (by decide +kernel), List.mem_of_getElem? (i := 619) (by decide +kernel)⟩
theorem lw_p8 : lw_okq (⟨"PegCoats$Reading", "failHere", "()V"⟩, 6) := ⟨⟨by decide +kernel, by decide +kernel⟩, List.mem_of_getElem? (i := 144) (by decide +kernel), List.mem_of_getElem? (i := 622) (by decide +kernel), List.mem_of_getElem? (i := 623) (by decide +kernel)⟩
theorem lw_p9 : lw_okq (⟨"PegCoats$Reading", "takeWord", "(I)V"⟩, 6) := ⟨⟨by decide +kernel, by decide +kernel⟩, List.mem_of_getElem? (i := 144) (by decide +kernel), List.mem_of_getElem? (i := 634) (by decide +kernel), List.mem_of_getElem? (i := 635) (by decide +kernel)⟩
theorem lw_p10 : lw_okq (⟨"PegCoats$Reading", "takeNumber", "(II)I"⟩, 6) := ⟨⟨by decide +kernel, by decide +kernel⟩, List.mem_of_getElem? (i := 144) (by decide +kernel), List.mem_of_getElem? (i := 638) (by decide +kernel), List.mem_of_getElem? (i := 639) (by decide +kernel)⟩
theorem lw_p11 : lw_okq (⟨"PegCoats$Reading", "readMan", "()V"⟩, 6) := ⟨⟨by decide +kernel, by decide +kernel⟩, List.mem_of_getElem? (i := 144) (by decide +kernel), List.mem_of_getElem? (i := 642) (by decide +kernel), List.mem_of_getElem? (i := 643) (by decide +kernel)⟩
theorem lw_p12 : lw_okq (⟨"PegCoats$Reading", "readWears", "()V"⟩, 6) := ⟨⟨by decide +kernel, by decide +kernel⟩, List.mem_of_getElem? (i := 144) (by decide +kernel), List.mem_of_getElem? (i := 646) (by decide +kernel), List.mem_of_getElem? (i := 647) (by decide +kernel)⟩
theorem lw_p13 : lw_okq (⟨"PegCoats$Reading", "readProgram", "(I)V"⟩, 6) := ⟨⟨by decide +kernel, by decide +kernel⟩, List.mem_of_getElem? (i := 144) (by decide +kernel), List.mem_of_getElem? (i := 651) (by decide +kernel), List.mem_of_getElem? (i := 652) (by decide +kernel)⟩
theorem lw_p14 : lw_okq (⟨"PegCoats$Reading", "readTest", "()V"⟩, 6) := ⟨⟨by decide +kernel, by decide +kernel⟩, List.mem_of_getElem? (i := 144) (by decide +kernel), List.mem_of_getElem? (i := 659) (by decide +kernel), List.mem_of_getElem? (i := 660) (by decide +kernel)⟩
theorem lw_p15 : lw_okq (⟨"PegCoats$Reading", "readBoth", "()V"⟩, 6) := ⟨⟨by decide +kernel, by decide +kernel⟩, List.mem_of_getElem? (i := 144) (by decide +kernel), List.mem_of_getElem? (i := 663) (by decide +kernel), List.mem_of_getElem? (i := 664) (by decide +kernel)⟩
def lw_privs_1 : List (MethodName × Nat) := [(⟨"PegCoats", "refuse", "(I)I"⟩, 16), (⟨"PegCoats", "deny", "(I)Z"⟩, 16), (⟨"PegCoats$Scanner", "ownWord", "(I)I"⟩, 8), (⟨"PegCoats$Reading", "readStatement", "()V"⟩, 6), (⟨"PegCoats$Reading", "fail", "(II)V"⟩, 6), (⟨"PegCoats$Reading", "readCoat", "()V"⟩, 6), (⟨"PegCoats$Reading", "takeNewName", "()I"⟩, 6), (⟨"PegCoats$Reading", "peekName", "()I"⟩, 6), (⟨"PegCoats$Reading", "failHere", "()V"⟩, 6), (⟨"PegCoats$Reading", "takeWord", "(I)V"⟩, 6), (⟨"PegCoats$Reading", "takeNumber", "(II)I"⟩, 6), (⟨"PegCoats$Reading", "readMan", "()V"⟩, 6), (⟨"PegCoats$Reading", "readWears", "()V"⟩, 6), (⟨"PegCoats$Reading", "readProgram", "(I)V"⟩, 6), (⟨"PegCoats$Reading", "readTest", "()V"⟩, 6), (⟨"PegCoats$Reading", "readBoth", "()V"⟩, 6)]
theorem lw_r1 : ∀ q ∈ lw_privs_1, lw_okq q := List.forall_mem_cons.mpr ⟨lw_p0, List.forall_mem_cons.mpr ⟨lw_p1, List.forall_mem_cons.mpr ⟨lw_p2, List.forall_mem_cons.mpr ⟨lw_p3, List.forall_mem_cons.mpr ⟨lw_p4, List.forall_mem_cons.mpr ⟨lw_p5, List.forall_mem_cons.mpr ⟨lw_p6, List.forall_mem_cons.mpr ⟨lw_p7, List.forall_mem_cons.mpr ⟨lw_p8, List.forall_mem_cons.mpr ⟨lw_p9, List.forall_mem_cons.mpr ⟨lw_p10, List.forall_mem_cons.mpr ⟨lw_p11, List.forall_mem_cons.mpr ⟨lw_p12, List.forall_mem_cons.mpr ⟨lw_p13, List.forall_mem_cons.mpr ⟨lw_p14, List.forall_mem_cons.mpr ⟨lw_p15, fun _ h => absurd h List.not_mem_nil⟩⟩⟩⟩⟩⟩⟩⟩⟩⟩⟩⟩⟩⟩⟩⟩
theorem lw_p16 : lw_okq (⟨"PegCoats$Reading", "readFact", "()V"⟩, 6) := ⟨⟨by decide +kernel, by decide +kernel⟩, List.mem_of_getElem? (i := 144) (by decide +kernel), List.mem_of_getElem? (i := 667) (by decide +kernel), List.mem_of_getElem? (i := 668) (by decide +kernel)⟩
theorem lw_p17 : lw_okq (⟨"PegCoats$Reading", "opens", "()Z"⟩, 6) := ⟨⟨by decide +kernel, by decide +kernel⟩, List.mem_of_getElem? (i := 144) (by decide +kernel), List.mem_of_getElem? (i := 671) (by decide +kernel), List.mem_of_getElem? (i := 672) (by decide +kernel)⟩
theorem lw_p18 : lw_okq (⟨"PegCoats$Reading", "emit", "(I)V"⟩, 6) := ⟨⟨by decide +kernel, by decide +kernel⟩, List.mem_of_getElem? (i := 144) (by decide +kernel), List.mem_of_getElem? (i := 675) (by decide +kernel), List.mem_of_getElem? (i := 676) (by decide +kernel)⟩
theorem lw_p19 : lw_okq (⟨"PegCoats$Reading", "closes", "(C)V"⟩, 6) := ⟨⟨by decide +kernel, by decide +kernel⟩, List.mem_of_getElem? (i := 144) (by decide +kernel), List.mem_of_getElem? (i := 683) (by decide +kernel), List.mem_of_getElem? (i := 684) (by decide +kernel)⟩
theorem lw_p20 : lw_okq (⟨"PegCoats$Reading", "takeSign", "(C)V"⟩, 6) := ⟨⟨by decide +kernel, by decide +kernel⟩, List.mem_of_getElem? (i := 144) (by decide +kernel), List.mem_of_getElem? (i := 687) (by decide +kernel), List.mem_of_getElem? (i := 688) (by decide +kernel)⟩
theorem lw_p21 : lw_okq (⟨"PegCoats$Reading", "readComparison", "()V"⟩, 6) := ⟨⟨by decide +kernel, by decide +kernel⟩, List.mem_of_getElem? (i := 144) (by decide +kernel), List.mem_of_getElem? (i := 691) (by decide +kernel), List.mem_of_getElem? (i := 692) (by decide +kernel)⟩
theorem lw_p22 : lw_okq (⟨"PegCoats$Reading", "readSum", "()V"⟩, 6) := ⟨⟨by decide +kernel, by decide +kernel⟩, List.mem_of_getElem? (i := 144) (by decide +kernel), List.mem_of_getElem? (i := 695) (by decide +kernel), List.mem_of_getElem? (i := 696) (by decide +kernel)⟩
theorem lw_p23 : lw_okq (⟨"PegCoats$Reading", "readProduct", "()V"⟩, 6) := ⟨⟨by decide +kernel, by decide +kernel⟩, List.mem_of_getElem? (i := 144) (by decide +kernel), List.mem_of_getElem? (i := 699) (by decide +kernel), List.mem_of_getElem? (i := 700) (by decide +kernel)⟩
theorem lw_p24 : lw_okq (⟨"PegCoats$Reading", "readPart", "()V"⟩, 6) := ⟨⟨by decide +kernel, by decide +kernel⟩, List.mem_of_getElem? (i := 144) (by decide +kernel), List.mem_of_getElem? (i := 703) (by decide +kernel), List.mem_of_getElem? (i := 704) (by decide +kernel)⟩
theorem lw_p25 : lw_okq (⟨"PegCoats$Reading", "readChoice", "(I)V"⟩, 6) := ⟨⟨by decide +kernel, by decide +kernel⟩, List.mem_of_getElem? (i := 144) (by decide +kernel), List.mem_of_getElem? (i := 707) (by decide +kernel), List.mem_of_getElem? (i := 708) (by decide +kernel)⟩
theorem lw_p26 : lw_okq (⟨"PegCoats$Reading", "isValue", "(I)Z"⟩, 6) := ⟨⟨by decide +kernel, by decide +kernel⟩, List.mem_of_getElem? (i := 144) (by decide +kernel), List.mem_of_getElem? (i := 711) (by decide +kernel), List.mem_of_getElem? (i := 712) (by decide +kernel)⟩
theorem lw_p27 : lw_okq (⟨"PegCoats$Reading", "atProductSign", "()Z"⟩, 6) := ⟨⟨by decide +kernel, by decide +kernel⟩, List.mem_of_getElem? (i := 144) (by decide +kernel), List.mem_of_getElem? (i := 715) (by decide +kernel), List.mem_of_getElem? (i := 716) (by decide +kernel)⟩
theorem lw_p28 : lw_okq (⟨"PegCoats", "toldAsKept", "()I"⟩, 16) := ⟨⟨by decide +kernel, by decide +kernel⟩, List.mem_of_getElem? (i := 22) (by decide +kernel), List.mem_of_getElem? (i := 770) (by decide +kernel), List.mem_of_getElem? (i := 771) (by decide +kernel)⟩
theorem lw_p29 : lw_okq (⟨"PegCoats", "isCoat", "(I)Z"⟩, 16) := ⟨⟨by decide +kernel, by decide +kernel⟩, List.mem_of_getElem? (i := 22) (by decide +kernel), List.mem_of_getElem? (i := 781) (by decide +kernel), List.mem_of_getElem? (i := 782) (by decide +kernel)⟩
theorem lw_p30 : lw_okq (⟨"PegCoats", "isMan", "(I)Z"⟩, 16) := ⟨⟨by decide +kernel, by decide +kernel⟩, List.mem_of_getElem? (i := 22) (by decide +kernel), List.mem_of_getElem? (i := 788) (by decide +kernel), List.mem_of_getElem? (i := 789) (by decide +kernel)⟩
theorem lw_p31 : lw_okq (⟨"PegCoats$Works", "result", "(I)I"⟩, 17) := ⟨⟨by decide +kernel, by decide +kernel⟩, List.mem_of_getElem? (i := 48) (by decide +kernel), List.mem_of_getElem? (i := 817) (by decide +kernel), List.mem_of_getElem? (i := 818) (by decide +kernel)⟩
def lw_privs_2 : List (MethodName × Nat) := [(⟨"PegCoats$Reading", "readFact", "()V"⟩, 6), (⟨"PegCoats$Reading", "opens", "()Z"⟩, 6), (⟨"PegCoats$Reading", "emit", "(I)V"⟩, 6), (⟨"PegCoats$Reading", "closes", "(C)V"⟩, 6), (⟨"PegCoats$Reading", "takeSign", "(C)V"⟩, 6), (⟨"PegCoats$Reading", "readComparison", "()V"⟩, 6), (⟨"PegCoats$Reading", "readSum", "()V"⟩, 6), (⟨"PegCoats$Reading", "readProduct", "()V"⟩, 6), (⟨"PegCoats$Reading", "readPart", "()V"⟩, 6), (⟨"PegCoats$Reading", "readChoice", "(I)V"⟩, 6), (⟨"PegCoats$Reading", "isValue", "(I)Z"⟩, 6), (⟨"PegCoats$Reading", "atProductSign", "()Z"⟩, 6), (⟨"PegCoats", "toldAsKept", "()I"⟩, 16), (⟨"PegCoats", "isCoat", "(I)Z"⟩, 16), (⟨"PegCoats", "isMan", "(I)Z"⟩, 16), (⟨"PegCoats$Works", "result", "(I)I"⟩, 17)]
theorem lw_r2 : ∀ q ∈ lw_privs_2, lw_okq q := List.forall_mem_cons.mpr ⟨lw_p16, List.forall_mem_cons.mpr ⟨lw_p17, List.forall_mem_cons.mpr ⟨lw_p18, List.forall_mem_cons.mpr ⟨lw_p19, List.forall_mem_cons.mpr ⟨lw_p20, List.forall_mem_cons.mpr ⟨lw_p21, List.forall_mem_cons.mpr ⟨lw_p22, List.forall_mem_cons.mpr ⟨lw_p23, List.forall_mem_cons.mpr ⟨lw_p24, List.forall_mem_cons.mpr ⟨lw_p25, List.forall_mem_cons.mpr ⟨lw_p26, List.forall_mem_cons.mpr ⟨lw_p27, List.forall_mem_cons.mpr ⟨lw_p28, List.forall_mem_cons.mpr ⟨lw_p29, List.forall_mem_cons.mpr ⟨lw_p30, List.forall_mem_cons.mpr ⟨lw_p31, fun _ h => absurd h List.not_mem_nil⟩⟩⟩⟩⟩⟩⟩⟩⟩⟩⟩⟩⟩⟩⟩⟩
theorem lw_p32 : lw_okq (⟨"PegCoats", "canCome", "(III)Z"⟩, 16) := ⟨⟨by decide +kernel, by decide +kernel⟩, List.mem_of_getElem? (i := 22) (by decide +kernel), List.mem_of_getElem? (i := 832) (by decide +kernel), List.mem_of_getElem? (i := 833) (by decide +kernel)⟩
theorem lw_p33 : lw_okq (⟨"PegCoats", "lookAhead", "(I)V"⟩, 16) := ⟨⟨by decide +kernel, by decide +kernel⟩, List.mem_of_getElem? (i := 22) (by decide +kernel), List.mem_of_getElem? (i := 836) (by decide +kernel), List.mem_of_getElem? (i := 837) (by decide +kernel)⟩
theorem lw_p34 : lw_okq (⟨"PegCoats$Course", "growAll", "(LPegCoats$State;)V"⟩, 3) := ⟨⟨by decide +kernel, by decide +kernel⟩, List.mem_of_getElem? (i := 249) (by decide +kernel), List.mem_of_getElem? (i := 849) (by decide +kernel), List.mem_of_getElem? (i := 850) (by decide +kernel)⟩
theorem lw_p35 : lw_okq (⟨"PegCoats$Course", "leaveAll", "(LPegCoats$State;)V"⟩, 3) := ⟨⟨by decide +kernel, by decide +kernel⟩, List.mem_of_getElem? (i := 249) (by decide +kernel), List.mem_of_getElem? (i := 862) (by decide +kernel), List.mem_of_getElem? (i := 863) (by decide +kernel)⟩
theorem lw_p36 : lw_okq (⟨"PegCoats$Course", "dressAll", "(LPegCoats$State;I)V"⟩, 3) := ⟨⟨by decide +kernel, by decide +kernel⟩, List.mem_of_getElem? (i := 249) (by decide +kernel), List.mem_of_getElem? (i := 870) (by decide +kernel), List.mem_of_getElem? (i := 871) (by decide +kernel)⟩
theorem lw_p37 : lw_okq (⟨"PegCoats$Course", "payAll", "(LPegCoats$State;)V"⟩, 3) := ⟨⟨by decide +kernel, by decide +kernel⟩, List.mem_of_getElem? (i := 249) (by decide +kernel), List.mem_of_getElem? (i := 884) (by decide +kernel), List.mem_of_getElem? (i := 885) (by decide +kernel)⟩
theorem lw_p38 : lw_okq (⟨"PegCoats", "isThere", "(I)Z"⟩, 16) := ⟨⟨by decide +kernel, by decide +kernel⟩, List.mem_of_getElem? (i := 22) (by decide +kernel), List.mem_of_getElem? (i := 896) (by decide +kernel), List.mem_of_getElem? (i := 897) (by decide +kernel)⟩
theorem lw_p39 : lw_okq (⟨"PegCoats$Matching", "bestFrom", "(II)I"⟩, 3) := ⟨⟨by decide +kernel, by decide +kernel⟩, List.mem_of_getElem? (i := 366) (by decide +kernel), List.mem_of_getElem? (i := 911) (by decide +kernel), List.mem_of_getElem? (i := 912) (by decide +kernel)⟩
theorem lw_p40 : lw_okq (⟨"PegCoats$Matching", "canTake", "(III)Z"⟩, 3) := ⟨⟨by decide +kernel, by decide +kernel⟩, List.mem_of_getElem? (i := 366) (by decide +kernel), List.mem_of_getElem? (i := 915) (by decide +kernel), List.mem_of_getElem? (i := 916) (by decide +kernel)⟩
theorem lw_p41 : lw_okq (⟨"PegCoats$Matching", "firstChoice", "(II)I"⟩, 3) := ⟨⟨by decide +kernel, by decide +kernel⟩, List.mem_of_getElem? (i := 366) (by decide +kernel), List.mem_of_getElem? (i := 927) (by decide +kernel), List.mem_of_getElem? (i := 928) (by decide +kernel)⟩
theorem lw_p42 : lw_okq (⟨"PegCoats", "wouldGladlyChange", "(II)Z"⟩, 16) := ⟨⟨by decide +kernel, by decide +kernel⟩, List.mem_of_getElem? (i := 22) (by decide +kernel), List.mem_of_getElem? (i := 935) (by decide +kernel), List.mem_of_getElem? (i := 936) (by decide +kernel)⟩
theorem lw_p43 : lw_okq (⟨"PegCoats", "warmer", "(III)Z"⟩, 16) := ⟨⟨by decide +kernel, by decide +kernel⟩, List.mem_of_getElem? (i := 22) (by decide +kernel), List.mem_of_getElem? (i := 939) (by decide +kernel), List.mem_of_getElem? (i := 940) (by decide +kernel)⟩
theorem lw_p44 : lw_okq (⟨"PegCoats$Passing", "reaches", "(IIII)Z"⟩, 5) := ⟨⟨by decide +kernel, by decide +kernel⟩, List.mem_of_getElem? (i := 384) (by decide +kernel), List.mem_of_getElem? (i := 956) (by decide +kernel), List.mem_of_getElem? (i := 957) (by decide +kernel)⟩
theorem lw_p45 : lw_okq (⟨"PegCoats$Passing", "brings", "(IIII)Z"⟩, 5) := ⟨⟨by decide +kernel, by decide +kernel⟩, List.mem_of_getElem? (i := 384) (by decide +kernel), List.mem_of_getElem? (i := 960) (by decide +kernel), List.mem_of_getElem? (i := 961) (by decide +kernel)⟩
theorem lw_p46 : lw_okq (⟨"PegCoats$Passing", "nobodyColder", "(II)Z"⟩, 5) := ⟨⟨by decide +kernel, by decide +kernel⟩, List.mem_of_getElem? (i := 384) (by decide +kernel), List.mem_of_getElem? (i := 964) (by decide +kernel), List.mem_of_getElem? (i := 965) (by decide +kernel)⟩
theorem lw_p47 : lw_okq (⟨"PegCoats$Passing", "warmthOf", "(III)I"⟩, 5) := ⟨⟨by decide +kernel, by decide +kernel⟩, List.mem_of_getElem? (i := 384) (by decide +kernel), List.mem_of_getElem? (i := 968) (by decide +kernel), List.mem_of_getElem? (i := 969) (by decide +kernel)⟩
def lw_privs_3 : List (MethodName × Nat) := [(⟨"PegCoats", "canCome", "(III)Z"⟩, 16), (⟨"PegCoats", "lookAhead", "(I)V"⟩, 16), (⟨"PegCoats$Course", "growAll", "(LPegCoats$State;)V"⟩, 3), (⟨"PegCoats$Course", "leaveAll", "(LPegCoats$State;)V"⟩, 3), (⟨"PegCoats$Course", "dressAll", "(LPegCoats$State;I)V"⟩, 3), (⟨"PegCoats$Course", "payAll", "(LPegCoats$State;)V"⟩, 3), (⟨"PegCoats", "isThere", "(I)Z"⟩, 16), (⟨"PegCoats$Matching", "bestFrom", "(II)I"⟩, 3), (⟨"PegCoats$Matching", "canTake", "(III)Z"⟩, 3), (⟨"PegCoats$Matching", "firstChoice", "(II)I"⟩, 3), (⟨"PegCoats", "wouldGladlyChange", "(II)Z"⟩, 16), (⟨"PegCoats", "warmer", "(III)Z"⟩, 16), (⟨"PegCoats$Passing", "reaches", "(IIII)Z"⟩, 5), (⟨"PegCoats$Passing", "brings", "(IIII)Z"⟩, 5), (⟨"PegCoats$Passing", "nobodyColder", "(II)Z"⟩, 5), (⟨"PegCoats$Passing", "warmthOf", "(III)I"⟩, 5)]
theorem lw_r3 : ∀ q ∈ lw_privs_3, lw_okq q := List.forall_mem_cons.mpr ⟨lw_p32, List.forall_mem_cons.mpr ⟨lw_p33, List.forall_mem_cons.mpr ⟨lw_p34, List.forall_mem_cons.mpr ⟨lw_p35, List.forall_mem_cons.mpr ⟨lw_p36, List.forall_mem_cons.mpr ⟨lw_p37, List.forall_mem_cons.mpr ⟨lw_p38, List.forall_mem_cons.mpr ⟨lw_p39, List.forall_mem_cons.mpr ⟨lw_p40, List.forall_mem_cons.mpr ⟨lw_p41, List.forall_mem_cons.mpr ⟨lw_p42, List.forall_mem_cons.mpr ⟨lw_p43, List.forall_mem_cons.mpr ⟨lw_p44, List.forall_mem_cons.mpr ⟨lw_p45, List.forall_mem_cons.mpr ⟨lw_p46, List.forall_mem_cons.mpr ⟨lw_p47, fun _ h => absurd h List.not_mem_nil⟩⟩⟩⟩⟩⟩⟩⟩⟩⟩⟩⟩⟩⟩⟩⟩
theorem lw_p48 : lw_okq (⟨"PegCoats$Passing", "reachesBehind", "(IIIIII)Z"⟩, 5) := ⟨⟨by decide +kernel, by decide +kernel⟩, List.mem_of_getElem? (i := 384) (by decide +kernel), List.mem_of_getElem? (i := 974) (by decide +kernel), List.mem_of_getElem? (i := 975) (by decide +kernel)⟩
theorem lw_p49 : lw_okq (⟨"PegCoats$Passing", "liningOf", "(I)I"⟩, 5) := ⟨⟨by decide +kernel, by decide +kernel⟩, List.mem_of_getElem? (i := 384) (by decide +kernel), List.mem_of_getElem? (i := 978) (by decide +kernel), List.mem_of_getElem? (i := 979) (by decide +kernel)⟩
theorem lw_p50 : lw_okq (⟨"PegCoats$Passing", "putBack", "(III)V"⟩, 5) := ⟨⟨by decide +kernel, by decide +kernel⟩, List.mem_of_getElem? (i := 384) (by decide +kernel), List.mem_of_getElem? (i := 987) (by decide +kernel), List.mem_of_getElem? (i := 988) (by decide +kernel)⟩
theorem lw_p51 : lw_okq (⟨"PegCoats$Telling", "choicesOf", "(LPegCoats$State;I)I"⟩, 12) := ⟨⟨by decide +kernel, by decide +kernel⟩, List.mem_of_getElem? (i := 409) (by decide +kernel), List.mem_of_getElem? (i := 1022) (by decide +kernel), List.mem_of_getElem? (i := 1023) (by decide +kernel)⟩
theorem lw_p52 : lw_okq (⟨"PegCoats$Telling", "outfit", "()I"⟩, 12) := ⟨⟨by decide +kernel, by decide +kernel⟩, List.mem_of_getElem? (i := 409) (by decide +kernel), List.mem_of_getElem? (i := 1029) (by decide +kernel), List.mem_of_getElem? (i := 1030) (by decide +kernel)⟩
theorem lw_p53 : lw_okq (⟨"PegCoats$Telling", "goesWithRows", "(I)Z"⟩, 12) := ⟨⟨by decide +kernel, by decide +kernel⟩, List.mem_of_getElem? (i := 409) (by decide +kernel), List.mem_of_getElem? (i := 1034) (by decide +kernel), List.mem_of_getElem? (i := 1035) (by decide +kernel)⟩
theorem lw_p54 : lw_okq (⟨"PegCoats$Telling", "coatIn", "(III)I"⟩, 12) := ⟨⟨by decide +kernel, by decide +kernel⟩, List.mem_of_getElem? (i := 409) (by decide +kernel), List.mem_of_getElem? (i := 1038) (by decide +kernel), List.mem_of_getElem? (i := 1039) (by decide +kernel)⟩
theorem lw_p55 : lw_okq (⟨"PegCoats$Telling", "mostLeft", "(II)I"⟩, 12) := ⟨⟨by decide +kernel, by decide +kernel⟩, List.mem_of_getElem? (i := 409) (by decide +kernel), List.mem_of_getElem? (i := 1050) (by decide +kernel), List.mem_of_getElem? (i := 1051) (by decide +kernel)⟩
theorem lw_p56 : lw_okq (⟨"PegCoats", "keepOneYear", "()V"⟩, 16) := ⟨⟨by decide +kernel, by decide +kernel⟩, List.mem_of_getElem? (i := 22) (by decide +kernel), List.mem_of_getElem? (i := 1064) (by decide +kernel), List.mem_of_getElem? (i := 1065) (by decide +kernel)⟩
theorem lw_p57 : lw_okq (⟨"PegCoats", "burnsOne", "()Z"⟩, 16) := ⟨⟨by decide +kernel, by decide +kernel⟩, List.mem_of_getElem? (i := 22) (by decide +kernel), List.mem_of_getElem? (i := 1072) (by decide +kernel), List.mem_of_getElem? (i := 1073) (by decide +kernel)⟩
theorem lw_p58 : lw_okq (⟨"PegCoats", "draw", "(I)I"⟩, 16) := ⟨⟨by decide +kernel, by decide +kernel⟩, List.mem_of_getElem? (i := 22) (by decide +kernel), List.mem_of_getElem? (i := 1076) (by decide +kernel), List.mem_of_getElem? (i := 1077) (by decide +kernel)⟩
theorem lw_p59 : lw_okq (⟨"PegCoats", "isPegged", "(I)Z"⟩, 16) := ⟨⟨by decide +kernel, by decide +kernel⟩, List.mem_of_getElem? (i := 22) (by decide +kernel), List.mem_of_getElem? (i := 1097) (by decide +kernel), List.mem_of_getElem? (i := 1098) (by decide +kernel)⟩
theorem lw_p60 : lw_okq (⟨"PegCoats$Picture", "write", "(I)V"⟩, 3) := ⟨⟨by decide +kernel, by decide +kernel⟩, List.mem_of_getElem? (i := 460) (by decide +kernel), List.mem_of_getElem? (i := 1130) (by decide +kernel), List.mem_of_getElem? (i := 1131) (by decide +kernel)⟩
theorem lw_p61 : lw_okq (⟨"PegCoats$Picture", "readsMan", "(LPegCoats$State;LPegCoats$Tape;II)Z"⟩, 3) := ⟨⟨by decide +kernel, by decide +kernel⟩, List.mem_of_getElem? (i := 460) (by decide +kernel), List.mem_of_getElem? (i := 1153) (by decide +kernel), List.mem_of_getElem? (i := 1154) (by decide +kernel)⟩
theorem lw_p62 : lw_okq (⟨"PegCoatsModel", "refuses", "(I)I"⟩, 67) := ⟨⟨by decide +kernel, by decide +kernel⟩, List.mem_of_getElem? (i := 1161) (by decide +kernel), List.mem_of_getElem? (i := 1374) (by decide +kernel), List.mem_of_getElem? (i := 1375) (by decide +kernel)⟩
theorem lw_p63 : lw_okq (⟨"PegCoatsModel", "put", "(I)V"⟩, 67) := ⟨⟨by decide +kernel, by decide +kernel⟩, List.mem_of_getElem? (i := 1161) (by decide +kernel), List.mem_of_getElem? (i := 1378) (by decide +kernel), List.mem_of_getElem? (i := 1379) (by decide +kernel)⟩
def lw_privs_4 : List (MethodName × Nat) := [(⟨"PegCoats$Passing", "reachesBehind", "(IIIIII)Z"⟩, 5), (⟨"PegCoats$Passing", "liningOf", "(I)I"⟩, 5), (⟨"PegCoats$Passing", "putBack", "(III)V"⟩, 5), (⟨"PegCoats$Telling", "choicesOf", "(LPegCoats$State;I)I"⟩, 12), (⟨"PegCoats$Telling", "outfit", "()I"⟩, 12), (⟨"PegCoats$Telling", "goesWithRows", "(I)Z"⟩, 12), (⟨"PegCoats$Telling", "coatIn", "(III)I"⟩, 12), (⟨"PegCoats$Telling", "mostLeft", "(II)I"⟩, 12), (⟨"PegCoats", "keepOneYear", "()V"⟩, 16), (⟨"PegCoats", "burnsOne", "()Z"⟩, 16), (⟨"PegCoats", "draw", "(I)I"⟩, 16), (⟨"PegCoats", "isPegged", "(I)Z"⟩, 16), (⟨"PegCoats$Picture", "write", "(I)V"⟩, 3), (⟨"PegCoats$Picture", "readsMan", "(LPegCoats$State;LPegCoats$Tape;II)Z"⟩, 3), (⟨"PegCoatsModel", "refuses", "(I)I"⟩, 67), (⟨"PegCoatsModel", "put", "(I)V"⟩, 67)]
theorem lw_r4 : ∀ q ∈ lw_privs_4, lw_okq q := List.forall_mem_cons.mpr ⟨lw_p48, List.forall_mem_cons.mpr ⟨lw_p49, List.forall_mem_cons.mpr ⟨lw_p50, List.forall_mem_cons.mpr ⟨lw_p51, List.forall_mem_cons.mpr ⟨lw_p52, List.forall_mem_cons.mpr ⟨lw_p53, List.forall_mem_cons.mpr ⟨lw_p54, List.forall_mem_cons.mpr ⟨lw_p55, List.forall_mem_cons.mpr ⟨lw_p56, List.forall_mem_cons.mpr ⟨lw_p57, List.forall_mem_cons.mpr ⟨lw_p58, List.forall_mem_cons.mpr ⟨lw_p59, List.forall_mem_cons.mpr ⟨lw_p60, List.forall_mem_cons.mpr ⟨lw_p61, List.forall_mem_cons.mpr ⟨lw_p62, List.forall_mem_cons.mpr ⟨lw_p63, fun _ h => absurd h List.not_mem_nil⟩⟩⟩⟩⟩⟩⟩⟩⟩⟩⟩⟩⟩⟩⟩⟩
theorem lw_p64 : lw_okq (⟨"PegCoatsModel", "ahead", "()V"⟩, 67) := ⟨⟨by decide +kernel, by decide +kernel⟩, List.mem_of_getElem? (i := 1161) (by decide +kernel), List.mem_of_getElem? (i := 1390) (by decide +kernel), List.mem_of_getElem? (i := 1391) (by decide +kernel)⟩
theorem lw_p65 : lw_okq (⟨"PegCoatsModel", "statement", "()V"⟩, 67) := ⟨⟨by decide +kernel, by decide +kernel⟩, List.mem_of_getElem? (i := 1161) (by decide +kernel), List.mem_of_getElem? (i := 1400) (by decide +kernel), List.mem_of_getElem? (i := 1401) (by decide +kernel)⟩
theorem lw_p66 : lw_okq (⟨"PegCoatsModel", "lex", "()V"⟩, 67) := ⟨⟨by decide +kernel, by decide +kernel⟩, List.mem_of_getElem? (i := 1161) (by decide +kernel), List.mem_of_getElem? (i := 1404) (by decide +kernel), List.mem_of_getElem? (i := 1405) (by decide +kernel)⟩
theorem lw_p67 : lw_okq (⟨"PegCoatsModel", "blame", "(II)V"⟩, 67) := ⟨⟨by decide +kernel, by decide +kernel⟩, List.mem_of_getElem? (i := 1161) (by decide +kernel), List.mem_of_getElem? (i := 1408) (by decide +kernel), List.mem_of_getElem? (i := 1409) (by decide +kernel)⟩
theorem lw_p68 : lw_okq (⟨"PegCoatsModel", "isWord", "(J)Z"⟩, 67) := ⟨⟨by decide +kernel, by decide +kernel⟩, List.mem_of_getElem? (i := 1161) (by decide +kernel), List.mem_of_getElem? (i := 1413) (by decide +kernel), List.mem_of_getElem? (i := 1414) (by decide +kernel)⟩
theorem lw_p69 : lw_okq (⟨"PegCoatsModel", "coating", "()V"⟩, 67) := ⟨⟨by decide +kernel, by decide +kernel⟩, List.mem_of_getElem? (i := 1161) (by decide +kernel), List.mem_of_getElem? (i := 1417) (by decide +kernel), List.mem_of_getElem? (i := 1418) (by decide +kernel)⟩
theorem lw_p70 : lw_okq (⟨"PegCoatsModel", "counts", "(Z)Z"⟩, 67) := ⟨⟨by decide +kernel, by decide +kernel⟩, List.mem_of_getElem? (i := 1161) (by decide +kernel), List.mem_of_getElem? (i := 1421) (by decide +kernel), List.mem_of_getElem? (i := 1422) (by decide +kernel)⟩
theorem lw_p71 : lw_okq (⟨"PegCoatsModel", "fresh", "()J"⟩, 67) := ⟨⟨by decide +kernel, by decide +kernel⟩, List.mem_of_getElem? (i := 1161) (by decide +kernel), List.mem_of_getElem? (i := 1425) (by decide +kernel), List.mem_of_getElem? (i := 1426) (by decide +kernel)⟩
theorem lw_p72 : lw_okq (⟨"PegCoatsModel", "isOwn", "(J)Z"⟩, 67) := ⟨⟨by decide +kernel, by decide +kernel⟩, List.mem_of_getElem? (i := 1161) (by decide +kernel), List.mem_of_getElem? (i := 1429) (by decide +kernel), List.mem_of_getElem? (i := 1430) (by decide +kernel)⟩
theorem lw_p73 : lw_okq (⟨"PegCoatsModel", "coatNamed", "(J)I"⟩, 67) := ⟨⟨by decide +kernel, by decide +kernel⟩, List.mem_of_getElem? (i := 1161) (by decide +kernel), List.mem_of_getElem? (i := 1454) (by decide +kernel), List.mem_of_getElem? (i := 1455) (by decide +kernel)⟩
theorem lw_p74 : lw_okq (⟨"PegCoatsModel", "manNamed", "(J)I"⟩, 67) := ⟨⟨by decide +kernel, by decide +kernel⟩, List.mem_of_getElem? (i := 1161) (by decide +kernel), List.mem_of_getElem? (i := 1458) (by decide +kernel), List.mem_of_getElem? (i := 1459) (by decide +kernel)⟩
theorem lw_p75 : lw_okq (⟨"PegCoatsModel", "must", "(J)V"⟩, 67) := ⟨⟨by decide +kernel, by decide +kernel⟩, List.mem_of_getElem? (i := 1161) (by decide +kernel), List.mem_of_getElem? (i := 1462) (by decide +kernel), List.mem_of_getElem? (i := 1463) (by decide +kernel)⟩
theorem lw_p76 : lw_okq (⟨"PegCoatsModel", "number", "(II)I"⟩, 67) := ⟨⟨by decide +kernel, by decide +kernel⟩, List.mem_of_getElem? (i := 1161) (by decide +kernel), List.mem_of_getElem? (i := 1466) (by decide +kernel), List.mem_of_getElem? (i := 1467) (by decide +kernel)⟩
theorem lw_p77 : lw_okq (⟨"PegCoatsModel", "manning", "()V"⟩, 67) := ⟨⟨by decide +kernel, by decide +kernel⟩, List.mem_of_getElem? (i := 1161) (by decide +kernel), List.mem_of_getElem? (i := 1473) (by decide +kernel), List.mem_of_getElem? (i := 1474) (by decide +kernel)⟩
theorem lw_p78 : lw_okq (⟨"PegCoatsModel", "wearing", "()V"⟩, 67) := ⟨⟨by decide +kernel, by decide +kernel⟩, List.mem_of_getElem? (i := 1161) (by decide +kernel), List.mem_of_getElem? (i := 1477) (by decide +kernel), List.mem_of_getElem? (i := 1478) (by decide +kernel)⟩
theorem lw_p79 : lw_okq (⟨"PegCoatsModel", "named", "()J"⟩, 67) := ⟨⟨by decide +kernel, by decide +kernel⟩, List.mem_of_getElem? (i := 1161) (by decide +kernel), List.mem_of_getElem? (i := 1481) (by decide +kernel), List.mem_of_getElem? (i := 1482) (by decide +kernel)⟩
def lw_privs_5 : List (MethodName × Nat) := [(⟨"PegCoatsModel", "ahead", "()V"⟩, 67), (⟨"PegCoatsModel", "statement", "()V"⟩, 67), (⟨"PegCoatsModel", "lex", "()V"⟩, 67), (⟨"PegCoatsModel", "blame", "(II)V"⟩, 67), (⟨"PegCoatsModel", "isWord", "(J)Z"⟩, 67), (⟨"PegCoatsModel", "coating", "()V"⟩, 67), (⟨"PegCoatsModel", "counts", "(Z)Z"⟩, 67), (⟨"PegCoatsModel", "fresh", "()J"⟩, 67), (⟨"PegCoatsModel", "isOwn", "(J)Z"⟩, 67), (⟨"PegCoatsModel", "coatNamed", "(J)I"⟩, 67), (⟨"PegCoatsModel", "manNamed", "(J)I"⟩, 67), (⟨"PegCoatsModel", "must", "(J)V"⟩, 67), (⟨"PegCoatsModel", "number", "(II)I"⟩, 67), (⟨"PegCoatsModel", "manning", "()V"⟩, 67), (⟨"PegCoatsModel", "wearing", "()V"⟩, 67), (⟨"PegCoatsModel", "named", "()J"⟩, 67)]
theorem lw_r5 : ∀ q ∈ lw_privs_5, lw_okq q := List.forall_mem_cons.mpr ⟨lw_p64, List.forall_mem_cons.mpr ⟨lw_p65, List.forall_mem_cons.mpr ⟨lw_p66, List.forall_mem_cons.mpr ⟨lw_p67, List.forall_mem_cons.mpr ⟨lw_p68, List.forall_mem_cons.mpr ⟨lw_p69, List.forall_mem_cons.mpr ⟨lw_p70, List.forall_mem_cons.mpr ⟨lw_p71, List.forall_mem_cons.mpr ⟨lw_p72, List.forall_mem_cons.mpr ⟨lw_p73, List.forall_mem_cons.mpr ⟨lw_p74, List.forall_mem_cons.mpr ⟨lw_p75, List.forall_mem_cons.mpr ⟨lw_p76, List.forall_mem_cons.mpr ⟨lw_p77, List.forall_mem_cons.mpr ⟨lw_p78, List.forall_mem_cons.mpr ⟨lw_p79, fun _ h => absurd h List.not_mem_nil⟩⟩⟩⟩⟩⟩⟩⟩⟩⟩⟩⟩⟩⟩⟩⟩
theorem lw_p80 : lw_okq (⟨"PegCoatsModel", "isWorn", "(I)Z"⟩, 67) := ⟨⟨by decide +kernel, by decide +kernel⟩, List.mem_of_getElem? (i := 1161) (by decide +kernel), List.mem_of_getElem? (i := 1485) (by decide +kernel), List.mem_of_getElem? (i := 1486) (by decide +kernel)⟩
theorem lw_p81 : lw_okq (⟨"PegCoatsModel", "reading", "(I)V"⟩, 67) := ⟨⟨by decide +kernel, by decide +kernel⟩, List.mem_of_getElem? (i := 1161) (by decide +kernel), List.mem_of_getElem? (i := 1489) (by decide +kernel), List.mem_of_getElem? (i := 1490) (by decide +kernel)⟩
theorem lw_p82 : lw_okq (⟨"PegCoatsModel", "reads", "(Z)V"⟩, 67) := ⟨⟨by decide +kernel, by decide +kernel⟩, List.mem_of_getElem? (i := 1161) (by decide +kernel), List.mem_of_getElem? (i := 1493) (by decide +kernel), List.mem_of_getElem? (i := 1494) (by decide +kernel)⟩
theorem lw_p83 : lw_okq (⟨"PegCoatsModel", "pushes", "(I)V"⟩, 67) := ⟨⟨by decide +kernel, by decide +kernel⟩, List.mem_of_getElem? (i := 1161) (by decide +kernel), List.mem_of_getElem? (i := 1497) (by decide +kernel), List.mem_of_getElem? (i := 1498) (by decide +kernel)⟩
theorem lw_p84 : lw_okq (⟨"PegCoatsModel", "operand", "()Z"⟩, 67) := ⟨⟨by decide +kernel, by decide +kernel⟩, List.mem_of_getElem? (i := 1161) (by decide +kernel), List.mem_of_getElem? (i := 1501) (by decide +kernel), List.mem_of_getElem? (i := 1502) (by decide +kernel)⟩
theorem lw_p85 : lw_okq (⟨"PegCoatsModel", "holdsBack", "(I)V"⟩, 67) := ⟨⟨by decide +kernel, by decide +kernel⟩, List.mem_of_getElem? (i := 1161) (by decide +kernel), List.mem_of_getElem? (i := 1508) (by decide +kernel), List.mem_of_getElem? (i := 1509) (by decide +kernel)⟩
theorem lw_p86 : lw_okq (⟨"PegCoatsModel", "isSign", "(I)Z"⟩, 67) := ⟨⟨by decide +kernel, by decide +kernel⟩, List.mem_of_getElem? (i := 1161) (by decide +kernel), List.mem_of_getElem? (i := 1512) (by decide +kernel), List.mem_of_getElem? (i := 1513) (by decide +kernel)⟩
theorem lw_p87 : lw_okq (⟨"PegCoatsModel", "opens", "(I)V"⟩, 67) := ⟨⟨by decide +kernel, by decide +kernel⟩, List.mem_of_getElem? (i := 1161) (by decide +kernel), List.mem_of_getElem? (i := 1516) (by decide +kernel), List.mem_of_getElem? (i := 1517) (by decide +kernel)⟩
theorem lw_p88 : lw_okq (⟨"PegCoatsModel", "add", "(II)V"⟩, 67) := ⟨⟨by decide +kernel, by decide +kernel⟩, List.mem_of_getElem? (i := 1161) (by decide +kernel), List.mem_of_getElem? (i := 1520) (by decide +kernel), List.mem_of_getElem? (i := 1521) (by decide +kernel)⟩
theorem lw_p89 : lw_okq (⟨"PegCoatsModel", "goesOn", "()Z"⟩, 67) := ⟨⟨by decide +kernel, by decide +kernel⟩, List.mem_of_getElem? (i := 1161) (by decide +kernel), List.mem_of_getElem? (i := 1524) (by decide +kernel), List.mem_of_getElem? (i := 1525) (by decide +kernel)⟩
theorem lw_p90 : lw_okq (⟨"PegCoatsModel", "joins", "(I)V"⟩, 67) := ⟨⟨by decide +kernel, by decide +kernel⟩, List.mem_of_getElem? (i := 1161) (by decide +kernel), List.mem_of_getElem? (i := 1528) (by decide +kernel), List.mem_of_getElem? (i := 1529) (by decide +kernel)⟩
theorem lw_p91 : lw_okq (⟨"PegCoatsModel", "firing", "()V"⟩, 67) := ⟨⟨by decide +kernel, by decide +kernel⟩, List.mem_of_getElem? (i := 1161) (by decide +kernel), List.mem_of_getElem? (i := 1535) (by decide +kernel), List.mem_of_getElem? (i := 1536) (by decide +kernel)⟩
theorem lw_p92 : lw_okq (⟨"PegCoatsModel", "finishes", "(I)V"⟩, 67) := ⟨⟨by decide +kernel, by decide +kernel⟩, List.mem_of_getElem? (i := 1161) (by decide +kernel), List.mem_of_getElem? (i := 1539) (by decide +kernel), List.mem_of_getElem? (i := 1540) (by decide +kernel)⟩
theorem lw_p93 : lw_okq (⟨"PegCoatsModel", "must", "(I)V"⟩, 67) := ⟨⟨by decide +kernel, by decide +kernel⟩, List.mem_of_getElem? (i := 1161) (by decide +kernel), List.mem_of_getElem? (i := 1543) (by decide +kernel), List.mem_of_getElem? (i := 1544) (by decide +kernel)⟩
theorem lw_p94 : lw_okq (⟨"PegCoatsModel", "begin", "()V"⟩, 67) := ⟨⟨by decide +kernel, by decide +kernel⟩, List.mem_of_getElem? (i := 1161) (by decide +kernel), List.mem_of_getElem? (i := 1547) (by decide +kernel), List.mem_of_getElem? (i := 1548) (by decide +kernel)⟩
theorem lw_p95 : lw_okq (⟨"PegCoatsModel", "slot", "(I)I"⟩, 67) := ⟨⟨by decide +kernel, by decide +kernel⟩, List.mem_of_getElem? (i := 1161) (by decide +kernel), List.mem_of_getElem? (i := 1563) (by decide +kernel), List.mem_of_getElem? (i := 1564) (by decide +kernel)⟩
def lw_privs_6 : List (MethodName × Nat) := [(⟨"PegCoatsModel", "isWorn", "(I)Z"⟩, 67), (⟨"PegCoatsModel", "reading", "(I)V"⟩, 67), (⟨"PegCoatsModel", "reads", "(Z)V"⟩, 67), (⟨"PegCoatsModel", "pushes", "(I)V"⟩, 67), (⟨"PegCoatsModel", "operand", "()Z"⟩, 67), (⟨"PegCoatsModel", "holdsBack", "(I)V"⟩, 67), (⟨"PegCoatsModel", "isSign", "(I)Z"⟩, 67), (⟨"PegCoatsModel", "opens", "(I)V"⟩, 67), (⟨"PegCoatsModel", "add", "(II)V"⟩, 67), (⟨"PegCoatsModel", "goesOn", "()Z"⟩, 67), (⟨"PegCoatsModel", "joins", "(I)V"⟩, 67), (⟨"PegCoatsModel", "firing", "()V"⟩, 67), (⟨"PegCoatsModel", "finishes", "(I)V"⟩, 67), (⟨"PegCoatsModel", "must", "(I)V"⟩, 67), (⟨"PegCoatsModel", "begin", "()V"⟩, 67), (⟨"PegCoatsModel", "slot", "(I)I"⟩, 67)]
theorem lw_r6 : ∀ q ∈ lw_privs_6, lw_okq q := List.forall_mem_cons.mpr ⟨lw_p80, List.forall_mem_cons.mpr ⟨lw_p81, List.forall_mem_cons.mpr ⟨lw_p82, List.forall_mem_cons.mpr ⟨lw_p83, List.forall_mem_cons.mpr ⟨lw_p84, List.forall_mem_cons.mpr ⟨lw_p85, List.forall_mem_cons.mpr ⟨lw_p86, List.forall_mem_cons.mpr ⟨lw_p87, List.forall_mem_cons.mpr ⟨lw_p88, List.forall_mem_cons.mpr ⟨lw_p89, List.forall_mem_cons.mpr ⟨lw_p90, List.forall_mem_cons.mpr ⟨lw_p91, List.forall_mem_cons.mpr ⟨lw_p92, List.forall_mem_cons.mpr ⟨lw_p93, List.forall_mem_cons.mpr ⟨lw_p94, List.forall_mem_cons.mpr ⟨lw_p95, fun _ h => absurd h List.not_mem_nil⟩⟩⟩⟩⟩⟩⟩⟩⟩⟩⟩⟩⟩⟩⟩⟩
theorem lw_p96 : lw_okq (⟨"PegCoatsModel", "copies", "(II)V"⟩, 67) := ⟨⟨by decide +kernel, by decide +kernel⟩, List.mem_of_getElem? (i := 1161) (by decide +kernel), List.mem_of_getElem? (i := 1567) (by decide +kernel), List.mem_of_getElem? (i := 1568) (by decide +kernel)⟩
theorem lw_p97 : lw_okq (⟨"PegCoatsModel", "isThere", "(II)Z"⟩, 67) := ⟨⟨by decide +kernel, by decide +kernel⟩, List.mem_of_getElem? (i := 1161) (by decide +kernel), List.mem_of_getElem? (i := 1575) (by decide +kernel), List.mem_of_getElem? (i := 1576) (by decide +kernel)⟩
theorem lw_p98 : lw_okq (⟨"PegCoatsModel", "isOnPeg", "(II)Z"⟩, 67) := ⟨⟨by decide +kernel, by decide +kernel⟩, List.mem_of_getElem? (i := 1161) (by decide +kernel), List.mem_of_getElem? (i := 1582) (by decide +kernel), List.mem_of_getElem? (i := 1583) (by decide +kernel)⟩
theorem lw_p99 : lw_okq (⟨"PegCoatsModel", "whoHas", "(II)I"⟩, 67) := ⟨⟨by decide +kernel, by decide +kernel⟩, List.mem_of_getElem? (i := 1161) (by decide +kernel), List.mem_of_getElem? (i := 1586) (by decide +kernel), List.mem_of_getElem? (i := 1587) (by decide +kernel)⟩
theorem lw_p100 : lw_okq (⟨"PegCoatsModel", "isCoat", "(I)Z"⟩, 67) := ⟨⟨by decide +kernel, by decide +kernel⟩, List.mem_of_getElem? (i := 1161) (by decide +kernel), List.mem_of_getElem? (i := 1594) (by decide +kernel), List.mem_of_getElem? (i := 1595) (by decide +kernel)⟩
theorem lw_p101 : lw_okq (⟨"PegCoatsModel", "isMan", "(I)Z"⟩, 67) := ⟨⟨by decide +kernel, by decide +kernel⟩, List.mem_of_getElem? (i := 1161) (by decide +kernel), List.mem_of_getElem? (i := 1598) (by decide +kernel), List.mem_of_getElem? (i := 1599) (by decide +kernel)⟩
theorem lw_p102 : lw_okq (⟨"PegCoatsModel", "warmed", "(III)J"⟩, 67) := ⟨⟨by decide +kernel, by decide +kernel⟩, List.mem_of_getElem? (i := 1161) (by decide +kernel), List.mem_of_getElem? (i := 1615) (by decide +kernel), List.mem_of_getElem? (i := 1616) (by decide +kernel)⟩
theorem lw_p103 : lw_okq (⟨"PegCoatsModel", "warmth", "(IIII)J"⟩, 67) := ⟨⟨by decide +kernel, by decide +kernel⟩, List.mem_of_getElem? (i := 1161) (by decide +kernel), List.mem_of_getElem? (i := 1619) (by decide +kernel), List.mem_of_getElem? (i := 1620) (by decide +kernel)⟩
theorem lw_p104 : lw_okq (⟨"PegCoatsModel", "isTold", "(I)Z"⟩, 67) := ⟨⟨by decide +kernel, by decide +kernel⟩, List.mem_of_getElem? (i := 1161) (by decide +kernel), List.mem_of_getElem? (i := 1623) (by decide +kernel), List.mem_of_getElem? (i := 1624) (by decide +kernel)⟩
theorem lw_p105 : lw_okq (⟨"PegCoatsModel", "reckons", "(I)J"⟩, 67) := ⟨⟨by decide +kernel, by decide +kernel⟩, List.mem_of_getElem? (i := 1161) (by decide +kernel), List.mem_of_getElem? (i := 1627) (by decide +kernel), List.mem_of_getElem? (i := 1628) (by decide +kernel)⟩
theorem lw_p106 : lw_okq (⟨"PegCoatsModel", "isAhead", "(III)Z"⟩, 67) := ⟨⟨by decide +kernel, by decide +kernel⟩, List.mem_of_getElem? (i := 1161) (by decide +kernel), List.mem_of_getElem? (i := 1647) (by decide +kernel), List.mem_of_getElem? (i := 1648) (by decide +kernel)⟩
theorem lw_p107 : lw_okq (⟨"PegCoatsModel", "tries", "(I)V"⟩, 67) := ⟨⟨by decide +kernel, by decide +kernel⟩, List.mem_of_getElem? (i := 1161) (by decide +kernel), List.mem_of_getElem? (i := 1651) (by decide +kernel), List.mem_of_getElem? (i := 1652) (by decide +kernel)⟩
theorem lw_p108 : lw_okq (⟨"PegCoatsModel", "ticks", "(II)I"⟩, 67) := ⟨⟨by decide +kernel, by decide +kernel⟩, List.mem_of_getElem? (i := 1161) (by decide +kernel), List.mem_of_getElem? (i := 1655) (by decide +kernel), List.mem_of_getElem? (i := 1656) (by decide +kernel)⟩
theorem lw_p109 : lw_okq (⟨"PegCoatsModel", "grow", "(II)V"⟩, 67) := ⟨⟨by decide +kernel, by decide +kernel⟩, List.mem_of_getElem? (i := 1161) (by decide +kernel), List.mem_of_getElem? (i := 1659) (by decide +kernel), List.mem_of_getElem? (i := 1660) (by decide +kernel)⟩
theorem lw_p110 : lw_okq (⟨"PegCoatsModel", "isLeaving", "(II)Z"⟩, 67) := ⟨⟨by decide +kernel, by decide +kernel⟩, List.mem_of_getElem? (i := 1161) (by decide +kernel), List.mem_of_getElem? (i := 1664) (by decide +kernel), List.mem_of_getElem? (i := 1665) (by decide +kernel)⟩
theorem lw_p111 : lw_okq (⟨"PegCoatsModel", "warmest", "(III)I"⟩, 67) := ⟨⟨by decide +kernel, by decide +kernel⟩, List.mem_of_getElem? (i := 1161) (by decide +kernel), List.mem_of_getElem? (i := 1668) (by decide +kernel), List.mem_of_getElem? (i := 1669) (by decide +kernel)⟩
def lw_privs_7 : List (MethodName × Nat) := [(⟨"PegCoatsModel", "copies", "(II)V"⟩, 67), (⟨"PegCoatsModel", "isThere", "(II)Z"⟩, 67), (⟨"PegCoatsModel", "isOnPeg", "(II)Z"⟩, 67), (⟨"PegCoatsModel", "whoHas", "(II)I"⟩, 67), (⟨"PegCoatsModel", "isCoat", "(I)Z"⟩, 67), (⟨"PegCoatsModel", "isMan", "(I)Z"⟩, 67), (⟨"PegCoatsModel", "warmed", "(III)J"⟩, 67), (⟨"PegCoatsModel", "warmth", "(IIII)J"⟩, 67), (⟨"PegCoatsModel", "isTold", "(I)Z"⟩, 67), (⟨"PegCoatsModel", "reckons", "(I)J"⟩, 67), (⟨"PegCoatsModel", "isAhead", "(III)Z"⟩, 67), (⟨"PegCoatsModel", "tries", "(I)V"⟩, 67), (⟨"PegCoatsModel", "ticks", "(II)I"⟩, 67), (⟨"PegCoatsModel", "grow", "(II)V"⟩, 67), (⟨"PegCoatsModel", "isLeaving", "(II)Z"⟩, 67), (⟨"PegCoatsModel", "warmest", "(III)I"⟩, 67)]
theorem lw_r7 : ∀ q ∈ lw_privs_7, lw_okq q := List.forall_mem_cons.mpr ⟨lw_p96, List.forall_mem_cons.mpr ⟨lw_p97, List.forall_mem_cons.mpr ⟨lw_p98, List.forall_mem_cons.mpr ⟨lw_p99, List.forall_mem_cons.mpr ⟨lw_p100, List.forall_mem_cons.mpr ⟨lw_p101, List.forall_mem_cons.mpr ⟨lw_p102, List.forall_mem_cons.mpr ⟨lw_p103, List.forall_mem_cons.mpr ⟨lw_p104, List.forall_mem_cons.mpr ⟨lw_p105, List.forall_mem_cons.mpr ⟨lw_p106, List.forall_mem_cons.mpr ⟨lw_p107, List.forall_mem_cons.mpr ⟨lw_p108, List.forall_mem_cons.mpr ⟨lw_p109, List.forall_mem_cons.mpr ⟨lw_p110, List.forall_mem_cons.mpr ⟨lw_p111, fun _ h => absurd h List.not_mem_nil⟩⟩⟩⟩⟩⟩⟩⟩⟩⟩⟩⟩⟩⟩⟩⟩
theorem lw_p112 : lw_okq (⟨"PegCoatsModel", "puts", "(III)V"⟩, 67) := ⟨⟨by decide +kernel, by decide +kernel⟩, List.mem_of_getElem? (i := 1161) (by decide +kernel), List.mem_of_getElem? (i := 1672) (by decide +kernel), List.mem_of_getElem? (i := 1673) (by decide +kernel)⟩
theorem lw_p113 : lw_okq (⟨"PegCoatsModel", "writesDown", "(III)V"⟩, 67) := ⟨⟨by decide +kernel, by decide +kernel⟩, List.mem_of_getElem? (i := 1161) (by decide +kernel), List.mem_of_getElem? (i := 1676) (by decide +kernel), List.mem_of_getElem? (i := 1677) (by decide +kernel)⟩
theorem lw_p114 : lw_okq (⟨"PegCoatsModel", "isHere", "(I)Z"⟩, 67) := ⟨⟨by decide +kernel, by decide +kernel⟩, List.mem_of_getElem? (i := 1161) (by decide +kernel), List.mem_of_getElem? (i := 1688) (by decide +kernel), List.mem_of_getElem? (i := 1689) (by decide +kernel)⟩
theorem lw_p115 : lw_okq (⟨"PegCoatsModel", "fits", "(III)I"⟩, 67) := ⟨⟨by decide +kernel, by decide +kernel⟩, List.mem_of_getElem? (i := 1161) (by decide +kernel), List.mem_of_getElem? (i := 1699) (by decide +kernel), List.mem_of_getElem? (i := 1700) (by decide +kernel)⟩
theorem lw_p116 : lw_okq (⟨"PegCoatsModel", "changesWell", "(II)Z"⟩, 67) := ⟨⟨by decide +kernel, by decide +kernel⟩, List.mem_of_getElem? (i := 1161) (by decide +kernel), List.mem_of_getElem? (i := 1711) (by decide +kernel), List.mem_of_getElem? (i := 1712) (by decide +kernel)⟩
theorem lw_p117 : lw_okq (⟨"PegCoatsModel", "changes", "(III)V"⟩, 67) := ⟨⟨by decide +kernel, by decide +kernel⟩, List.mem_of_getElem? (i := 1161) (by decide +kernel), List.mem_of_getElem? (i := 1715) (by decide +kernel), List.mem_of_getElem? (i := 1716) (by decide +kernel)⟩
theorem lw_p118 : lw_okq (⟨"PegCoatsModel", "hadBits", "(I)I"⟩, 67) := ⟨⟨by decide +kernel, by decide +kernel⟩, List.mem_of_getElem? (i := 1161) (by decide +kernel), List.mem_of_getElem? (i := 1735) (by decide +kernel), List.mem_of_getElem? (i := 1736) (by decide +kernel)⟩
theorem lw_p119 : lw_okq (⟨"PegCoatsModel", "mostBy", "(III)I"⟩, 67) := ⟨⟨by decide +kernel, by decide +kernel⟩, List.mem_of_getElem? (i := 1161) (by decide +kernel), List.mem_of_getElem? (i := 1744) (by decide +kernel), List.mem_of_getElem? (i := 1745) (by decide +kernel)⟩
theorem lw_p120 : lw_okq (⟨"PegCoatsModel", "keeps", "()V"⟩, 67) := ⟨⟨by decide +kernel, by decide +kernel⟩, List.mem_of_getElem? (i := 1161) (by decide +kernel), List.mem_of_getElem? (i := 1752) (by decide +kernel), List.mem_of_getElem? (i := 1753) (by decide +kernel)⟩
theorem lw_p121 : lw_okq (⟨"PegCoatsModel", "draw", "(I)I"⟩, 67) := ⟨⟨by decide +kernel, by decide +kernel⟩, List.mem_of_getElem? (i := 1161) (by decide +kernel), List.mem_of_getElem? (i := 1760) (by decide +kernel), List.mem_of_getElem? (i := 1761) (by decide +kernel)⟩
theorem lw_p122 : lw_okq (⟨"PegCoatsModel", "burns", "()I"⟩, 67) := ⟨⟨by decide +kernel, by decide +kernel⟩, List.mem_of_getElem? (i := 1161) (by decide +kernel), List.mem_of_getElem? (i := 1768) (by decide +kernel), List.mem_of_getElem? (i := 1769) (by decide +kernel)⟩
theorem lw_p123 : lw_okq (⟨"PegCoatsModel", "writes", "(I)V"⟩, 67) := ⟨⟨by decide +kernel, by decide +kernel⟩, List.mem_of_getElem? (i := 1161) (by decide +kernel), List.mem_of_getElem? (i := 1796) (by decide +kernel), List.mem_of_getElem? (i := 1797) (by decide +kernel)⟩
theorem lw_p124 : lw_okq (⟨"PegCoatsModel", "comesOn", "(I)Z"⟩, 67) := ⟨⟨by decide +kernel, by decide +kernel⟩, List.mem_of_getElem? (i := 1161) (by decide +kernel), List.mem_of_getElem? (i := 1808) (by decide +kernel), List.mem_of_getElem? (i := 1809) (by decide +kernel)⟩
theorem lw_p125 : lw_okq (⟨"PegCoatsModel", "manOn", "(II)Z"⟩, 67) := ⟨⟨by decide +kernel, by decide +kernel⟩, List.mem_of_getElem? (i := 1161) (by decide +kernel), List.mem_of_getElem? (i := 1812) (by decide +kernel), List.mem_of_getElem? (i := 1813) (by decide +kernel)⟩
def lw_privs_8 : List (MethodName × Nat) := [(⟨"PegCoatsModel", "puts", "(III)V"⟩, 67), (⟨"PegCoatsModel", "writesDown", "(III)V"⟩, 67), (⟨"PegCoatsModel", "isHere", "(I)Z"⟩, 67), (⟨"PegCoatsModel", "fits", "(III)I"⟩, 67), (⟨"PegCoatsModel", "changesWell", "(II)Z"⟩, 67), (⟨"PegCoatsModel", "changes", "(III)V"⟩, 67), (⟨"PegCoatsModel", "hadBits", "(I)I"⟩, 67), (⟨"PegCoatsModel", "mostBy", "(III)I"⟩, 67), (⟨"PegCoatsModel", "keeps", "()V"⟩, 67), (⟨"PegCoatsModel", "draw", "(I)I"⟩, 67), (⟨"PegCoatsModel", "burns", "()I"⟩, 67), (⟨"PegCoatsModel", "writes", "(I)V"⟩, 67), (⟨"PegCoatsModel", "comesOn", "(I)Z"⟩, 67), (⟨"PegCoatsModel", "manOn", "(II)Z"⟩, 67)]
theorem lw_r8 : ∀ q ∈ lw_privs_8, lw_okq q := List.forall_mem_cons.mpr ⟨lw_p112, List.forall_mem_cons.mpr ⟨lw_p113, List.forall_mem_cons.mpr ⟨lw_p114, List.forall_mem_cons.mpr ⟨lw_p115, List.forall_mem_cons.mpr ⟨lw_p116, List.forall_mem_cons.mpr ⟨lw_p117, List.forall_mem_cons.mpr ⟨lw_p118, List.forall_mem_cons.mpr ⟨lw_p119, List.forall_mem_cons.mpr ⟨lw_p120, List.forall_mem_cons.mpr ⟨lw_p121, List.forall_mem_cons.mpr ⟨lw_p122, List.forall_mem_cons.mpr ⟨lw_p123, List.forall_mem_cons.mpr ⟨lw_p124, List.forall_mem_cons.mpr ⟨lw_p125, fun _ h => absurd h List.not_mem_nil⟩⟩⟩⟩⟩⟩⟩⟩⟩⟩⟩⟩⟩⟩
def lw_privs : List (MethodName × Nat) := lw_privs_1 ++ (lw_privs_2 ++ (lw_privs_3 ++ (lw_privs_4 ++ (lw_privs_5 ++ (lw_privs_6 ++ (lw_privs_7 ++ (lw_privs_8)))))))
def lw_tbl : List Cond := k2_sels lw_privs ++ tables_1
theorem lw_privs_ok : ∀ q ∈ lw_privs, lw_okq q := by
  show ∀ q ∈ lw_privs_1 ++ (lw_privs_2 ++ (lw_privs_3 ++ (lw_privs_4 ++ (lw_privs_5 ++ (lw_privs_6 ++ (lw_privs_7 ++ (lw_privs_8))))))), lw_okq q
  exact List.forall_mem_append.mpr ⟨lw_r1, List.forall_mem_append.mpr ⟨lw_r2, List.forall_mem_append.mpr ⟨lw_r3, List.forall_mem_append.mpr ⟨lw_r4, List.forall_mem_append.mpr ⟨lw_r5, List.forall_mem_append.mpr ⟨lw_r6, List.forall_mem_append.mpr ⟨lw_r7, lw_r8⟩⟩⟩⟩⟩⟩⟩
end
section
/-! the pure machine: cells by numbers (0 the script, 1 the literal, from 2 on what was made), ints, longs and references apart -/
abbrev pj_Z : Type := Nat × (Nat → Nat) × (Nat → Nat) × (Nat → Nat → Option Nat)
abbrev pj_S : Type := pj_Z × (Nat → Nat → Int32) × (Nat → Nat → Int64)
/-- a function of two numbers, changed at a place -/
def pj_u {α : Type} (f : Nat → Nat → α) (a k : Nat) (v : α) : Nat → Nat → α := fun b j => if b = a then (if j = k then v else f b j) else f b j
theorem pj_u_same {α : Type} (f : Nat → Nat → α) (a k : Nat) (v : α) : pj_u f a k v a k = v := by simp [pj_u]
theorem pj_u_row {α : Type} (f : Nat → Nat → α) (a k : Nat) (v : α) {b : Nat} (h : b ≠ a) (j : Nat) : pj_u f a k v b j = f b j := by simp [pj_u, h]
theorem pj_u_col {α : Type} (f : Nat → Nat → α) (a k : Nat) (v : α) (b : Nat) {j : Nat} (h : j ≠ k) : pj_u f a k v b j = f b j := by simp [pj_u, h]
/-- instruction, length, next place, three numbers, an int, a long, a switch's rows -/
abbrev pj_E : Type := Instr × Nat × Nat × (Nat × Nat × Nat) × Int32 × Int64 × List (Int32 × Nat)
/-- code: rows by chunks, each chunk with its last place -/
abbrev pj_M : Type := List (Nat × List (Nat × pj_E))
def pj_lk (pc : Nat) : List (Nat × pj_E) → Option pj_E
  | [] => none
  | q :: r => match Nat.beq pc q.1 with
    | true => some q.2
    | false => pj_lk pc r
def pj_at (pc : Nat) : pj_M → Option pj_E
  | [] => none
  | q :: r => match Nat.ble pc q.1 with
    | true => pj_lk pc q.2
    | false => pj_at pc r
abbrev pj_L : Type := List (Option Value)
def pj_c (b : Bool) (K : Prop) : Prop := match b with
  | true => K
  | false => False
def pj_pI (st : List Value) (k : Int32 → List Value → Prop) : Prop := match st with
  | .int x :: r => k x r
  | _ => False
def pj_pL (st : List Value) (k : Int64 → List Value → Prop) : Prop := match st with
  | .long x :: r => k x r
  | _ => False
def pj_pR (st : List Value) (k : Nat → List Value → Prop) : Prop := match st with
  | .ref x :: r => k x r
  | _ => False
def pj_pV (st : List Value) (k : Value → List Value → Prop) : Prop := match st with
  | .int x :: r => k (.int x) r
  | .ref x :: r => k (.ref x) r
  | _ => False
def pj_gI (L : pj_L) (i : Nat) (k : Int32 → Prop) : Prop := match L[i]? with
  | some (some (.int x)) => k x
  | _ => False
def pj_gL (L : pj_L) (i : Nat) (k : Int64 → Prop) : Prop := match L[i]? with
  | some (some (.long x)) => k x
  | _ => False
def pj_gR (L : pj_L) (i : Nat) (k : Nat → Prop) : Prop := match L[i]? with
  | some (some (.ref x)) => k x
  | _ => False
/-- a long just below the place goes -/
def pj_k1 (o : Option (Option Value)) (L : pj_L) (j : Nat) : pj_L := match o with
  | some (some (.long _)) => L.set j none
  | some (some (.double _)) => L.set j none
  | _ => L
def pj_kill (L : pj_L) (i : Nat) : pj_L := match i with
  | 0 => L
  | j + 1 => pj_k1 L[j]? L j
def pj_s1 (L : pj_L) (i : Nat) (v : Value) : pj_L := (pj_kill L i).set i (some v)
def pj_s2 (L : pj_L) (i : Nat) (v : Value) : pj_L := ((pj_kill L i).set i (some v)).set (i + 1) none
def pj_en : List Value → pj_L
  | [] => []
  | .long x :: vs => some (.long x) :: none :: pj_en vs
  | .double x :: vs => some (.double x) :: none :: pj_en vs
  | v :: vs => some v :: pj_en vs
def pj_pad (n : Nat) (L : pj_L) : pj_L := L ++ List.replicate (n - L.length) none
def pj_sw (x : Int32) (rows : List (Int32 × Nat)) (d : Nat) (k : Nat → Prop) : Prop := match rows with
  | [] => k d
  | r :: rs => (x = r.1 → k r.2) ∧ (¬ x = r.1 → pj_sw x rs d k)
/-- a cell is made -/
def pj_nZ (Z : pj_Z) (kind len : Nat) : pj_Z := (Z.1 + 1, va_up Z.2.1 Z.1 kind, va_up Z.2.2.1 Z.1 len, va_up Z.2.2.2 Z.1 (fun _ => none))
/-- a table of ints is made: the outer row, then the rows -/
def pj_nZ2 (Z : pj_Z) (n len : Nat) : pj_Z :=
  (Z.1 + 1 + n, fun k => if k = Z.1 then 17 else if Z.1 < k ∧ k < Z.1 + 1 + n then 13 else Z.2.1 k, fun k => if k = Z.1 then n else if Z.1 < k ∧ k < Z.1 + 1 + n then len else Z.2.2.1 k,
    fun k => if k = Z.1 then (fun j => if j < n then some (Z.1 + 1 + j) else none) else Z.2.2.2 k)
def pj_nI2 (I : Nat → Nat → Int32) (a n : Nat) : Nat → Nat → Int32 := fun k => if a < k ∧ k < a + 1 + n then (fun _ => 0) else I k
abbrev pj_K : Type := Option Value → pj_S → Prop
abbrev pj_CT : Type := Nat → List Value → pj_S → pj_K → Prop
abbrev pj_G : Type := Nat → pj_L → List Value → pj_Z → (Nat → Nat → Int32) → (Nat → Nat → Int64) → Nat → Nat → Prop
/-- the chars of the literal -/
def pj_ow (s : String) (i : Nat) : Int32 := Int32.ofNat ((s.toList.getD i 'a').toNat)
def pj_lit : String := "coat  size  pay   man   age   wears of    warms grows leavesfire  year  liningpurse coatedif    or    and   not   all   min   max   "
/-- calls of our own methods -/
def pj_call (C : pj_CT) (go : pj_G) (x y z nx : Nat) (inst : Bool) (L : pj_L) (st : List Value) (Z : pj_Z) (I : Nat → Nat → Int32) (J : Nat → Nat → Int64) (bc bs mc ms : Nat) : Prop :=
  pj_c (Nat.ble y st.length && Nat.ble (((st.drop y).map Value.category).sum) 8 && Nat.ble mc bc && Nat.ble ms bs)
    (match inst with
      | true => pj_pR (st.take y).reverse fun a _ => pj_c (Nat.beq (Z.2.1 a) z) (C x (st.take y).reverse (Z, I, J) fun r σ' => go nx L (r.toList ++ st.drop y) σ'.1 σ'.2.1 σ'.2.2 (bc - mc) (bs - ms))
      | false => C x (st.take y).reverse (Z, I, J) fun r σ' => go nx L (r.toList ++ st.drop y) σ'.1 σ'.2.1 σ'.2.2 (bc - mc) (bs - ms))
/-- a row copied into another -/
def pj_cp (I : Nat → Nat → Int32) (s d sp dp n : Nat) : Nat → Nat → Int32 := va_up I d (va_cpy (I s) (I d) sp dp n)
/-- invokevirtual -/
def pj_iv (C : pj_CT) (go : pj_G) (nx x y z : Nat) (L : pj_L) (st : List Value) (Z : pj_Z) (I : Nat → Nat → Int32) (J : Nat → Nat → Int64) (bc bs : Nat) : Prop := match x with
  | 1005 => pj_pI st fun b st => pj_pR st fun a st => pj_c (Nat.beq a 1 && Nat.ble ((st.map Value.category).sum) 8) (vp_in b 132 ∧ go nx L (.int (pj_ow pj_lit b.toNatClampNeg) :: st) Z I J bc bs)
  | x => pj_call C go x y z nx true L st Z I J bc bs 0 0
/-- invokespecial -/
def pj_ip (C : pj_CT) (al : Nat → Nat × Nat) (go : pj_G) (nx x y z : Nat) (L : pj_L) (st : List Value) (Z : pj_Z) (I : Nat → Nat → Int32) (J : Nat → Nat → Int64) (bc bs : Nat) : Prop := match x with
  | 1000 => pj_pR st fun _ st => pj_c (Nat.ble ((st.map Value.category).sum) 8) (go nx L st Z I J bc bs)
  | x => pj_call C go x y z nx true L st Z I J bc bs (al x).1 (al x).2
/-- invokestatic -/
def pj_is (C : pj_CT) (go : pj_G) (nx x y z : Nat) (L : pj_L) (st : List Value) (Z : pj_Z) (I : Nat → Nat → Int32) (J : Nat → Nat → Int64) (bc bs : Nat) : Prop := match x with
  | 1001 => pj_pI st fun b st => pj_pI st fun a st => pj_c (Nat.ble ((st.map Value.category).sum) 8) (go nx L (.int (if b < a then b else a) :: st) Z I J bc bs)
  | 1002 => pj_pI st fun b st => pj_pI st fun a st => pj_c (Nat.ble ((st.map Value.category).sum) 8) (go nx L (.int (if a < b then b else a) :: st) Z I J bc bs)
  | 1003 => pj_pI st fun a st => pj_c (Nat.ble ((st.map Value.category).sum) 8) (go nx L (.int (if 0 ≤ a then a else 0 - a) :: st) Z I J bc bs)
  | 1004 => pj_pI st fun n st => pj_pI st fun dp st => pj_pR st fun d st => pj_pI st fun sp st => pj_pR st fun s st => pj_c (Nat.beq (Z.2.1 s) 13 && Nat.beq (Z.2.1 d) 13 && Nat.ble ((st.map Value.category).sum) 8)
      ((¬ sp < 0 ∧ ¬ dp < 0 ∧ ¬ n < 0 ∧ sp.toNatClampNeg + n.toNatClampNeg ≤ Z.2.2.1 s ∧ dp.toNatClampNeg + n.toNatClampNeg ≤ Z.2.2.1 d) ∧ go nx L st Z (pj_cp I s d sp.toNatClampNeg dp.toNatClampNeg n.toNatClampNeg) J bc bs)
  | x => pj_call C go x y z nx false L st Z I J bc bs 0 0
/-- one instruction -/
def pj_x (C : pj_CT) (al : Nat → Nat × Nat) (rt : Bool) (Q : pj_K) (go : pj_G) (i : Instr) (nx x y z : Nat) (w : Int32) (v : Int64) (sw : List (Int32 × Nat)) (L : pj_L) (st : List Value) (Z : pj_Z) (I : Nat → Nat → Int32) (J : Nat → Nat → Int64) (bc bs : Nat) : Prop :=
  match i with
  | .aload k => pj_gR L k fun a => go nx L (.ref a :: st) Z I J bc bs
  | .aload_n k => pj_gR L k.val fun a => go nx L (.ref a :: st) Z I J bc bs
  | .iload k => pj_gI L k fun a => go nx L (.int a :: st) Z I J bc bs
  | .iload_n k => pj_gI L k.val fun a => go nx L (.int a :: st) Z I J bc bs
  | .lload k => pj_gL L k fun a => go nx L (.long a :: st) Z I J bc bs
  | .lload_n k => pj_gL L k.val fun a => go nx L (.long a :: st) Z I J bc bs
  | .astore k => pj_pR st fun a st => pj_c (Nat.blt k L.length) (go nx (pj_s1 L k (.ref a)) st Z I J bc bs)
  | .astore_n k => pj_pR st fun a st => pj_c (Nat.blt k.val L.length) (go nx (pj_s1 L k.val (.ref a)) st Z I J bc bs)
  | .istore k => pj_pI st fun a st => pj_c (Nat.blt k L.length) (go nx (pj_s1 L k (.int a)) st Z I J bc bs)
  | .istore_n k => pj_pI st fun a st => pj_c (Nat.blt k.val L.length) (go nx (pj_s1 L k.val (.int a)) st Z I J bc bs)
  | .lstore k => pj_pL st fun a st => pj_c (Nat.blt (k + 1) L.length) (go nx (pj_s2 L k (.long a)) st Z I J bc bs)
  | .lstore_n k => pj_pL st fun a st => pj_c (Nat.blt (k.val + 1) L.length) (go nx (pj_s2 L k.val (.long a)) st Z I J bc bs)
  | .iinc k _ => pj_gI L k fun a => go nx (pj_s1 L k (.int (a + w))) st Z I J bc bs
  | .iconst _ => go nx L (.int w :: st) Z I J bc bs
  | .bipush _ => go nx L (.int w :: st) Z I J bc bs
  | .sipush _ => go nx L (.int w :: st) Z I J bc bs
  | .lconst _ => go nx L (.long v :: st) Z I J bc bs
  | .ldc _ => match z with
    | 0 => go nx L (.int w :: st) Z I J bc bs
    | _ => go nx L (.ref 1 :: st) Z I J bc bs
  | .ldc_w _ => go nx L (.int w :: st) Z I J bc bs
  | .ldc2_w _ => go nx L (.long v :: st) Z I J bc bs
  | .iadd => pj_pI st fun b st => pj_pI st fun a st => go nx L (.int (a + b) :: st) Z I J bc bs
  | .isub => pj_pI st fun b st => pj_pI st fun a st => go nx L (.int (a - b) :: st) Z I J bc bs
  | .imul => pj_pI st fun b st => pj_pI st fun a st => go nx L (.int (a * b) :: st) Z I J bc bs
  | .idiv => pj_pI st fun b st => pj_pI st fun a st => ¬ b = 0 ∧ go nx L (.int (a / b) :: st) Z I J bc bs
  | .irem => pj_pI st fun b st => pj_pI st fun a st => ¬ b = 0 ∧ go nx L (.int (a - a / b * b) :: st) Z I J bc bs
  | .iand => pj_pI st fun b st => pj_pI st fun a st => go nx L (.int (a &&& b) :: st) Z I J bc bs
  | .ior => pj_pI st fun b st => pj_pI st fun a st => go nx L (.int (a ||| b) :: st) Z I J bc bs
  | .ixor => pj_pI st fun b st => pj_pI st fun a st => go nx L (.int (a ^^^ b) :: st) Z I J bc bs
  | .ishl => pj_pI st fun b st => pj_pI st fun a st => go nx L (.int (a <<< (b &&& 31)) :: st) Z I J bc bs
  | .ishr => pj_pI st fun b st => pj_pI st fun a st => go nx L (.int (a >>> (b &&& 31)) :: st) Z I J bc bs
  | .iushr => pj_pI st fun b st => pj_pI st fun a st => go nx L (.int (a.toUInt32 >>> (b.toUInt32 &&& Int32.toUInt32 31)).toInt32 :: st) Z I J bc bs
  | .ladd => pj_pL st fun b st => pj_pL st fun a st => go nx L (.long (a + b) :: st) Z I J bc bs
  | .lsub => pj_pL st fun b st => pj_pL st fun a st => go nx L (.long (a - b) :: st) Z I J bc bs
  | .lmul => pj_pL st fun b st => pj_pL st fun a st => go nx L (.long (a * b) :: st) Z I J bc bs
  | .ldiv => pj_pL st fun b st => pj_pL st fun a st => ¬ b = 0 ∧ go nx L (.long (a / b) :: st) Z I J bc bs
  | .lrem => pj_pL st fun b st => pj_pL st fun a st => ¬ b = 0 ∧ go nx L (.long (a - a / b * b) :: st) Z I J bc bs
  | .land => pj_pL st fun b st => pj_pL st fun a st => go nx L (.long (a &&& b) :: st) Z I J bc bs
  | .lor => pj_pL st fun b st => pj_pL st fun a st => go nx L (.long (a ||| b) :: st) Z I J bc bs
  | .lshl => pj_pI st fun b st => pj_pL st fun a st => go nx L (.long (a <<< (b.toInt64 &&& 63)) :: st) Z I J bc bs
  | .lshr => pj_pI st fun b st => pj_pL st fun a st => go nx L (.long (a >>> (b.toInt64 &&& 63)) :: st) Z I J bc bs
  | .lcmp => pj_pL st fun b st => pj_pL st fun a st => go nx L (.int (lg_cmp a b) :: st) Z I J bc bs
  | .i2l => pj_pI st fun a st => go nx L (.long a.toInt64 :: st) Z I J bc bs
  | .l2i => pj_pL st fun a st => go nx L (.int a.toInt32 :: st) Z I J bc bs
  | .dup => pj_pV st fun a st => go nx L (a :: a :: st) Z I J bc bs
  | .dup2 => pj_pV st fun a st => pj_pV st fun b st => go nx L (a :: b :: a :: b :: st) Z I J bc bs
  | .pop => pj_pV st fun _ st => go nx L st Z I J bc bs
  | .if_icmp cd _ => pj_pI st fun b st => pj_pI st fun a st => match cd with
    | .eq => (a = b → go x L st Z I J bc bs) ∧ (¬ a = b → go nx L st Z I J bc bs)
    | .ne => (¬ a = b → go x L st Z I J bc bs) ∧ (a = b → go nx L st Z I J bc bs)
    | .lt => (a < b → go x L st Z I J bc bs) ∧ (¬ a < b → go nx L st Z I J bc bs)
    | .ge => (b ≤ a → go x L st Z I J bc bs) ∧ (¬ b ≤ a → go nx L st Z I J bc bs)
    | .gt => (b < a → go x L st Z I J bc bs) ∧ (¬ b < a → go nx L st Z I J bc bs)
    | .le => (a ≤ b → go x L st Z I J bc bs) ∧ (¬ a ≤ b → go nx L st Z I J bc bs)
  | .ifCond cd _ => pj_pI st fun a st => match cd with
    | .eq => (a = 0 → go x L st Z I J bc bs) ∧ (¬ a = 0 → go nx L st Z I J bc bs)
    | .ne => (¬ a = 0 → go x L st Z I J bc bs) ∧ (a = 0 → go nx L st Z I J bc bs)
    | .lt => (a < 0 → go x L st Z I J bc bs) ∧ (¬ a < 0 → go nx L st Z I J bc bs)
    | .ge => (0 ≤ a → go x L st Z I J bc bs) ∧ (¬ 0 ≤ a → go nx L st Z I J bc bs)
    | .gt => (0 < a → go x L st Z I J bc bs) ∧ (¬ 0 < a → go nx L st Z I J bc bs)
    | .le => (a ≤ 0 → go x L st Z I J bc bs) ∧ (¬ a ≤ 0 → go nx L st Z I J bc bs)
  | .goto _ => go x L st Z I J bc bs
  | .tableswitch _ _ _ _ => pj_pI st fun a st => pj_sw a sw x fun t => go t L st Z I J bc bs
  | .lookupswitch _ _ => pj_pI st fun a st => pj_sw a sw x fun t => go t L st Z I J bc bs
  | .getfield _ => pj_pR st fun a st => pj_c (Nat.beq (Z.2.1 a) x) (match z with
    | 0 => go nx L (.int (I a y) :: st) Z I J bc bs
    | 1 => go nx L (.long (J a y) :: st) Z I J bc bs
    | 2 => pj_c (Z.2.2.2 a y).isSome (go nx L (.ref ((Z.2.2.2 a y).getD 0) :: st) Z I J bc bs)
    | _ => go nx L (.int (I a y) :: st) Z I J bc bs)
  | .putfield _ => match z with
    | 0 => pj_pI st fun b st => pj_pR st fun a st => pj_c (Nat.beq (Z.2.1 a) x) (go nx L st Z (pj_u I a y b) J bc bs)
    | 1 => pj_pL st fun b st => pj_pR st fun a st => pj_c (Nat.beq (Z.2.1 a) x) (go nx L st Z I (pj_u J a y b) bc bs)
    | 2 => pj_pR st fun b st => pj_pR st fun a st => pj_c (Nat.beq (Z.2.1 a) x) (go nx L st (Z.1, Z.2.1, Z.2.2.1, pj_u Z.2.2.2 a y (some b)) I J bc bs)
    | _ => pj_pI st fun b st => pj_pR st fun a st => pj_c (Nat.beq (Z.2.1 a) x) (b &&& 1 = b ∧ go nx L st Z (pj_u I a y b) J bc bs)
  | .iaload => pj_pI st fun b st => pj_pR st fun a st => pj_c (Nat.beq (Z.2.1 a) 13 || Nat.beq (Z.2.1 a) 18) (vp_in b (Z.2.2.1 a) ∧ go nx L (.int (I a b.toNatClampNeg) :: st) Z I J bc bs)
  | .laload => pj_pI st fun b st => pj_pR st fun a st => pj_c (Nat.beq (Z.2.1 a) 14) (vp_in b (Z.2.2.1 a) ∧ go nx L (.long (J a b.toNatClampNeg) :: st) Z I J bc bs)
  | .baload => pj_pI st fun b st => pj_pR st fun a st => pj_c (Nat.beq (Z.2.1 a) 15) (vp_in b (Z.2.2.1 a) ∧ go nx L (.int (I a b.toNatClampNeg) :: st) Z I J bc bs)
  | .aaload => pj_pI st fun b st => pj_pR st fun a st => pj_c (Nat.beq (Z.2.1 a) 16 || Nat.beq (Z.2.1 a) 17) (vp_in b (Z.2.2.1 a) ∧ pj_c (Z.2.2.2 a b.toNatClampNeg).isSome (go nx L (.ref ((Z.2.2.2 a b.toNatClampNeg).getD 0) :: st) Z I J bc bs))
  | .iastore => pj_pI st fun q st => pj_pI st fun b st => pj_pR st fun a st => pj_c (Nat.beq (Z.2.1 a) 13) (vp_in b (Z.2.2.1 a) ∧ go nx L st Z (pj_u I a b.toNatClampNeg q) J bc bs)
  | .lastore => pj_pL st fun q st => pj_pI st fun b st => pj_pR st fun a st => pj_c (Nat.beq (Z.2.1 a) 14) (vp_in b (Z.2.2.1 a) ∧ go nx L st Z I (pj_u J a b.toNatClampNeg q) bc bs)
  | .bastore => pj_pI st fun q st => pj_pI st fun b st => pj_pR st fun a st => pj_c (Nat.beq (Z.2.1 a) 15) (vp_in b (Z.2.2.1 a) ∧ go nx L st Z (pj_u I a b.toNatClampNeg (q &&& 1)) J bc bs)
  | .aastore => pj_pR st fun q st => pj_pI st fun b st => pj_pR st fun a st => pj_c (Nat.beq (Z.2.1 a) 16 && Nat.beq (Z.2.1 q) 7) (vp_in b (Z.2.2.1 a) ∧ go nx L st (Z.1, Z.2.1, Z.2.2.1, pj_u Z.2.2.2 a b.toNatClampNeg (some q)) I J bc bs)
  | .arraylength => pj_pR st fun a st => pj_c (Nat.ble 13 (Z.2.1 a) && Nat.ble (Z.2.1 a) 18) (go nx L (.int (nI (Z.2.2.1 a)) :: st) Z I J bc bs)
  | .newarray _ => pj_pI st fun n st => pj_c (Nat.ble 1 bc && Nat.ble n.toNatClampNeg bs && Nat.ble n.toNatClampNeg 100000 && !decide (n < 0)) (go nx L (.ref Z.1 :: st) (pj_nZ Z x n.toNatClampNeg) (va_up I Z.1 (fun _ => 0)) (va_up J Z.1 (fun _ => 0)) (bc - 1) (bs - n.toNatClampNeg))
  | .anewarray _ => pj_pI st fun n st => pj_c (Nat.ble 1 bc && Nat.ble n.toNatClampNeg bs && Nat.ble n.toNatClampNeg 100000 && !decide (n < 0)) (go nx L (.ref Z.1 :: st) (pj_nZ Z 16 n.toNatClampNeg) (va_up I Z.1 (fun _ => 0)) (va_up J Z.1 (fun _ => 0)) (bc - 1) (bs - n.toNatClampNeg))
  | .multianewarray _ _ => pj_pI st fun k st => pj_pI st fun n st => pj_c (Nat.ble (1 + n.toNatClampNeg) bc && Nat.ble (n.toNatClampNeg + n.toNatClampNeg * k.toNatClampNeg) bs && Nat.ble n.toNatClampNeg 1000 && Nat.ble k.toNatClampNeg 1000 && !decide (n < 0) && !decide (k < 0)) (go nx L (.ref Z.1 :: st) (pj_nZ2 Z n.toNatClampNeg k.toNatClampNeg) (pj_nI2 I Z.1 n.toNatClampNeg) J (bc - 1 - n.toNatClampNeg) (bs - n.toNatClampNeg - n.toNatClampNeg * k.toNatClampNeg))
  | .new _ => pj_c (Nat.ble 1 bc && Nat.ble y bs) (go nx L (.ref Z.1 :: st) (pj_nZ Z x 0) (va_up I Z.1 (fun _ => 0)) (va_up J Z.1 (fun _ => 0)) (bc - 1) (bs - y))
  | .invokevirtual _ => pj_iv C go nx x y z L st Z I J bc bs
  | .invokespecial _ => pj_ip C al go nx x y z L st Z I J bc bs
  | .invokestatic _ => pj_is C go nx x y z L st Z I J bc bs
  | .ireturn => pj_pI st fun a r => pj_c (r.isEmpty && Nat.beq bc 0 && Nat.beq bs 0) (match rt with
    | true => a &&& 1 = a ∧ Q (some (.int a)) (Z, I, J)
    | false => Q (some (.int a)) (Z, I, J))
  | .lreturn => pj_pL st fun a r => pj_c (r.isEmpty && Nat.beq bc 0 && Nat.beq bs 0) (Q (some (.long a)) (Z, I, J))
  | .return_ => pj_c (st.isEmpty && Nat.beq bc 0 && Nat.beq bs 0) (Q none (Z, I, J))
  | _ => False
/-- the instruction at a place -/
def pj_1 (C : pj_CT) (al : Nat → Nat × Nat) (M : pj_M) (rt : Bool) (Q : pj_K) (go : pj_G) (pc : Nat) (L : pj_L) (st : List Value) (Z : pj_Z) (I : Nat → Nat → Int32) (J : Nat → Nat → Int64) (bc bs : Nat) : Prop :=
  match pj_at pc M with
  | none => False
  | some (i, _, nx, (x, y, z), w, v, sw) => pj_x C al rt Q go i nx x y z w v sw L st Z I J bc bs
/-- from a place on to the end: the least that holds it -/
def pj_R (C : pj_CT) (al : Nat → Nat × Nat) (M : pj_M) (rt : Bool) (Q : pj_K) : pj_G := fun pc L st Z I J bc bs =>
  ∀ P : pj_G, (∀ pc L st Z I J bc bs, pj_1 C al M rt Q P pc L st Z I J bc bs → P pc L st Z I J bc bs) → P pc L st Z I J bc bs
/-- a method: name, bytes, locals, answer's type; its class, whether the answer is a boolean; its code -/
abbrev pj_T : Type := (MethodName × ByteArray × Nat × Option FieldType) × (Nat × Bool) × pj_M
/-- calls, to a depth -/
def pj_C (T : Nat → Option pj_T) (al : Nat → Nat × Nat) : Nat → pj_CT
  | 0 => fun _ _ _ _ => False
  | d + 1 => fun mi args σ K => match T mi with
    | none => False
    | some t => pj_c (Nat.ble (pj_en args).length t.1.2.2.1) (pj_R (pj_C T al d) al t.2.2 t.2.1.2 K 0 (pj_pad t.1.2.2.1 (pj_en args)) [] σ.1 σ.2.1 σ.2.2 (al mi).1 (al mi).2)
/-- steps up to the next place of cuts -/
def pj_v (C : pj_CT) (al : Nat → Nat × Nat) (M : pj_M) (rt : Bool) (Q : pj_K) (cut : Nat → Bool) : Nat → pj_G
  | 0 => fun _ _ _ _ _ _ _ _ => False
  | n + 1 => fun pc L st Z I J bc bs => match cut pc with
    | true => pj_R C al M rt Q pc L st Z I J bc bs
    | false => pj_1 C al M rt Q (pj_v C al M rt Q cut n) pc L st Z I J bc bs
end
section
/-! the pure machine asks no more of more -/
def pj_le (C C' : pj_CT) : Prop := ∀ (mi : Nat) (args : List Value) (σ : pj_S) (K K' : pj_K), (∀ r s, K r s → K' r s) → C mi args σ K → C' mi args σ K'
theorem pj_c_m {b : Bool} {K K' : Prop} (h : K → K') : pj_c b K → pj_c b K' := by cases b <;> exact fun q => by first | exact h q | exact q
theorem pj_pI_m {st : List Value} {k k' : Int32 → List Value → Prop} (h : ∀ x r, k x r → k' x r) : pj_pI st k → pj_pI st k' := by
  rcases st with _ | ⟨v, r⟩
  · exact id
  · cases v <;> first | exact h _ _ | exact id
theorem pj_pL_m {st : List Value} {k k' : Int64 → List Value → Prop} (h : ∀ x r, k x r → k' x r) : pj_pL st k → pj_pL st k' := by
  rcases st with _ | ⟨v, r⟩
  · exact id
  · cases v <;> first | exact h _ _ | exact id
theorem pj_pR_m {st : List Value} {k k' : Nat → List Value → Prop} (h : ∀ x r, k x r → k' x r) : pj_pR st k → pj_pR st k' := by
  rcases st with _ | ⟨v, r⟩
  · exact id
  · cases v <;> first | exact h _ _ | exact id
theorem pj_pV_m {st : List Value} {k k' : Value → List Value → Prop} (h : ∀ x r, k x r → k' x r) : pj_pV st k → pj_pV st k' := by
  rcases st with _ | ⟨v, r⟩
  · exact id
  · cases v <;> first | exact h _ _ | exact id
/-- locals of which less is known -/
def pj_ll : pj_L → pj_L → Prop
  | [], [] => True
  | none :: a, _ :: b => pj_ll a b
  | some v :: a, w :: b => w = some v ∧ pj_ll a b
  | _, _ => False
theorem pj_ll_rf : ∀ L : pj_L, pj_ll L L
  | [] => trivial
  | none :: a => pj_ll_rf a
  | some v :: a => ⟨rfl, pj_ll_rf a⟩
theorem pj_ll_len : ∀ {L L' : pj_L}, pj_ll L L' → L.length = L'.length
  | [], [], _ => rfl
  | none :: a, _ :: b, h => by rw [List.length_cons, List.length_cons, pj_ll_len (L := a) (L' := b) h]
  | some v :: a, w :: b, h => by rw [List.length_cons, List.length_cons, pj_ll_len (L := a) (L' := b) h.2]
  | [], _ :: _, h => h.elim
  | none :: _, [], h => h.elim
  | some _ :: _, [], h => h.elim
theorem pj_ll_get : ∀ {L L' : pj_L} (_ : pj_ll L L') (i : Nat) {v : Value}, L[i]? = some (some v) → L'[i]? = some (some v)
  | [], _, _, i, v, e => by simp at e
  | none :: a, [], h, _, _, _ => h.elim
  | some _ :: a, [], h, _, _, _ => h.elim
  | none :: a, w :: b, h, 0, v, e => by simp at e
  | none :: a, w :: b, h, i + 1, v, e => by
    rw [List.getElem?_cons_succ] at e ⊢
    exact pj_ll_get (L := a) (L' := b) h i e
  | some u :: a, w :: b, h, 0, v, e => by
    rw [List.getElem?_cons_zero] at e ⊢
    rw [h.1]; exact e
  | some u :: a, w :: b, h, i + 1, v, e => by
    rw [List.getElem?_cons_succ] at e ⊢
    exact pj_ll_get (L := a) (L' := b) h.2 i e
theorem pj_ll_of : ∀ {L L' : pj_L}, L.length = L'.length → (∀ (i : Nat) (v : Value), L[i]? = some (some v) → L'[i]? = some (some v)) → pj_ll L L'
  | [], [], _, _ => trivial
  | [], _ :: _, e, _ => by simp at e
  | _ :: _, [], e, _ => by simp at e
  | none :: a, w :: b, e, h => pj_ll_of (L := a) (L' := b) (by simpa using e) (fun i v q => by have := h (i + 1) v (by rw [List.getElem?_cons_succ]; exact q); rwa [List.getElem?_cons_succ] at this)
  | some u :: a, w :: b, e, h => ⟨by have := h 0 u (by rw [List.getElem?_cons_zero]); rw [List.getElem?_cons_zero] at this; exact Option.some.inj this, pj_ll_of (L := a) (L' := b) (by simpa using e) (fun i v q => by have := h (i + 1) v (by rw [List.getElem?_cons_succ]; exact q); rwa [List.getElem?_cons_succ] at this)⟩
theorem pj_ll_set {L L' : pj_L} (h : pj_ll L L') (i : Nat) (o : Option Value) : pj_ll (L.set i o) (L'.set i o) := by
  refine pj_ll_of (by rw [List.length_set, List.length_set]; exact pj_ll_len h) (fun j v e => ?_)
  rw [List.getElem?_set] at e ⊢
  by_cases hij : i = j
  · subst hij
    rw [if_pos rfl] at e ⊢
    rw [← pj_ll_len h]
    exact e
  · rw [if_neg hij] at e ⊢
    exact pj_ll_get h j e
theorem pj_ll_set0 {L L' : pj_L} (h : pj_ll L L') (i : Nat) (hi : ∀ v, L[i]? = some (some v) → False) : pj_ll L (L'.set i none) := by
  refine pj_ll_of (by rw [List.length_set]; exact pj_ll_len h) (fun j v e => ?_)
  rw [List.getElem?_set]
  by_cases hij : i = j
  · subst hij
    exact (hi v e).elim
  · rw [if_neg hij]
    exact pj_ll_get h j e
theorem pj_ll_kill {L L' : pj_L} (h : pj_ll L L') (i : Nat) : pj_ll (pj_kill L i) (pj_kill L' i) := by
  cases i with
  | zero => exact h
  | succ j =>
    show pj_ll (pj_k1 L[j]? L j) (pj_k1 L'[j]? L' j)
    cases hL : L[j]? with
    | none =>
      have h1 : L'[j]? = none := by
        rw [List.getElem?_eq_none_iff] at hL ⊢
        rw [← pj_ll_len h]; exact hL
      rw [h1]; exact h
    | some o =>
      cases o with
      | some v =>
        rw [pj_ll_get h j hL]
        cases v <;> first | exact h | exact pj_ll_set h j none
      | none =>
        have hn : ∀ v, L[j]? = some (some v) → False := fun v e => by rw [hL] at e; cases e
        rcases L'[j]? with _ | _ | v
        · exact h
        · exact h
        · cases v <;> first | exact h | exact pj_ll_set0 h j hn
theorem pj_ll_s1 {L L' : pj_L} (h : pj_ll L L') (i : Nat) (v : Value) : pj_ll (pj_s1 L i v) (pj_s1 L' i v) := pj_ll_set (pj_ll_kill h i) i _
theorem pj_ll_s2 {L L' : pj_L} (h : pj_ll L L') (i : Nat) (v : Value) : pj_ll (pj_s2 L i v) (pj_s2 L' i v) := pj_ll_set (pj_ll_set (pj_ll_kill h i) i _) (i + 1) none
theorem pj_gI_m {L L' : pj_L} (hL : pj_ll L L') {i : Nat} {k k' : Int32 → Prop} (h : ∀ x, k x → k' x) : pj_gI L i k → pj_gI L' i k' := by
  unfold pj_gI
  cases e : L[i]? with
  | none => exact fun q => q.elim
  | some o =>
    cases o with
    | none => exact fun q => q.elim
    | some v =>
      rw [pj_ll_get hL i e]
      cases v <;> first | exact h _ | exact id
theorem pj_gL_m {L L' : pj_L} (hL : pj_ll L L') {i : Nat} {k k' : Int64 → Prop} (h : ∀ x, k x → k' x) : pj_gL L i k → pj_gL L' i k' := by
  unfold pj_gL
  cases e : L[i]? with
  | none => exact fun q => q.elim
  | some o =>
    cases o with
    | none => exact fun q => q.elim
    | some v =>
      rw [pj_ll_get hL i e]
      cases v <;> first | exact h _ | exact id
theorem pj_gR_m {L L' : pj_L} (hL : pj_ll L L') {i : Nat} {k k' : Nat → Prop} (h : ∀ x, k x → k' x) : pj_gR L i k → pj_gR L' i k' := by
  unfold pj_gR
  cases e : L[i]? with
  | none => exact fun q => q.elim
  | some o =>
    cases o with
    | none => exact fun q => q.elim
    | some v =>
      rw [pj_ll_get hL i e]
      cases v <;> first | exact h _ | exact id
theorem pj_sw_m {x : Int32} {d : Nat} {k k' : Nat → Prop} (h : ∀ t, k t → k' t) : ∀ rows : List (Int32 × Nat), pj_sw x rows d k → pj_sw x rows d k'
  | [] => h d
  | r :: rs => fun q => ⟨fun c => h _ (q.1 c), fun c => pj_sw_m h rs (q.2 c)⟩
theorem pj_call_m {C C' : pj_CT} (hC : pj_le C C') {go go' : pj_G} (hg : ∀ pc L L' st Z I J bc bs, pj_ll L L' → go pc L st Z I J bc bs → go' pc L' st Z I J bc bs) {x y z nx : Nat} {inst : Bool} {L L' : pj_L} (hL : pj_ll L L') {st : List Value} {Z : pj_Z} {I : Nat → Nat → Int32} {J : Nat → Nat → Int64} {bc bs mc ms : Nat} :
    pj_call C go x y z nx inst L st Z I J bc bs mc ms → pj_call C' go' x y z nx inst L' st Z I J bc bs mc ms := by
  refine pj_c_m ?_
  cases inst
  · exact hC _ _ _ _ _ (fun _ _ => hg _ _ _ _ _ _ _ _ _ hL)
  · exact pj_pR_m (fun _ _ => pj_c_m (hC _ _ _ _ _ (fun _ _ => hg _ _ _ _ _ _ _ _ _ hL)))
theorem pj_iv_m {C C' : pj_CT} (hC : pj_le C C') {go go' : pj_G} (hg : ∀ pc L L' st Z I J bc bs, pj_ll L L' → go pc L st Z I J bc bs → go' pc L' st Z I J bc bs) {nx x y z : Nat} {L L' : pj_L} (hL : pj_ll L L') {st : List Value} {Z : pj_Z} {I : Nat → Nat → Int32} {J : Nat → Nat → Int64} {bc bs : Nat} : pj_iv C go nx x y z L st Z I J bc bs → pj_iv C' go' nx x y z L' st Z I J bc bs := by
  unfold pj_iv
  split
  · exact pj_pI_m fun _ _ => pj_pR_m fun _ _ => pj_c_m fun h => ⟨h.1, hg _ _ _ _ _ _ _ _ _ hL h.2⟩
  · exact pj_call_m hC hg hL
theorem pj_ip_m {C C' : pj_CT} (hC : pj_le C C') {al : Nat → Nat × Nat} {go go' : pj_G} (hg : ∀ pc L L' st Z I J bc bs, pj_ll L L' → go pc L st Z I J bc bs → go' pc L' st Z I J bc bs) {nx x y z : Nat} {L L' : pj_L} (hL : pj_ll L L') {st : List Value} {Z : pj_Z} {I : Nat → Nat → Int32} {J : Nat → Nat → Int64} {bc bs : Nat} : pj_ip C al go nx x y z L st Z I J bc bs → pj_ip C' al go' nx x y z L' st Z I J bc bs := by
  unfold pj_ip
  split
  · exact pj_pR_m fun _ _ => pj_c_m (hg _ _ _ _ _ _ _ _ _ hL)
  · exact pj_call_m hC hg hL
theorem pj_is_m {C C' : pj_CT} (hC : pj_le C C') {go go' : pj_G} (hg : ∀ pc L L' st Z I J bc bs, pj_ll L L' → go pc L st Z I J bc bs → go' pc L' st Z I J bc bs) {nx x y z : Nat} {L L' : pj_L} (hL : pj_ll L L') {st : List Value} {Z : pj_Z} {I : Nat → Nat → Int32} {J : Nat → Nat → Int64} {bc bs : Nat} : pj_is C go nx x y z L st Z I J bc bs → pj_is C' go' nx x y z L' st Z I J bc bs := by
  unfold pj_is
  split
  · exact pj_pI_m fun _ _ => pj_pI_m fun _ _ => pj_c_m (hg _ _ _ _ _ _ _ _ _ hL)
  · exact pj_pI_m fun _ _ => pj_pI_m fun _ _ => pj_c_m (hg _ _ _ _ _ _ _ _ _ hL)
  · exact pj_pI_m fun _ _ => pj_c_m (hg _ _ _ _ _ _ _ _ _ hL)
  · exact pj_pI_m fun _ _ => pj_pI_m fun _ _ => pj_pR_m fun _ _ => pj_pI_m fun _ _ => pj_pR_m fun _ _ => pj_c_m fun h => ⟨h.1, hg _ _ _ _ _ _ _ _ _ hL h.2⟩
  · exact pj_call_m hC hg hL
set_option maxHeartbeats 4000000 in
theorem pj_x_m {C C' : pj_CT} (hC : pj_le C C') {al : Nat → Nat × Nat} {rt : Bool} {Q Q' : pj_K} (hQ : ∀ r s, Q r s → Q' r s) {go go' : pj_G} (hg : ∀ pc L L' st Z I J bc bs, pj_ll L L' → go pc L st Z I J bc bs → go' pc L' st Z I J bc bs)
    {i : Instr} {nx x y z : Nat} {w : Int32} {v : Int64} {sw : List (Int32 × Nat)} {L L' : pj_L} (hL : pj_ll L L') {st : List Value} {Z : pj_Z} {I : Nat → Nat → Int32} {J : Nat → Nat → Int64} {bc bs : Nat} :
    pj_x C al rt Q go i nx x y z w v sw L st Z I J bc bs → pj_x C' al rt Q' go' i nx x y z w v sw L' st Z I J bc bs := by
  have g : ∀ {pc st Z I J bc bs}, go pc L st Z I J bc bs → go' pc L' st Z I J bc bs := fun {_ _ _ _ _ _ _} h => hg _ _ _ _ _ _ _ _ _ hL h
  cases i
  case astore k => exact pj_pR_m fun _ _ => by rw [pj_ll_len hL]; exact pj_c_m (hg _ _ _ _ _ _ _ _ _ (pj_ll_s1 hL _ _))
  case astore_n k => exact pj_pR_m fun _ _ => by rw [pj_ll_len hL]; exact pj_c_m (hg _ _ _ _ _ _ _ _ _ (pj_ll_s1 hL _ _))
  case istore k => exact pj_pI_m fun _ _ => by rw [pj_ll_len hL]; exact pj_c_m (hg _ _ _ _ _ _ _ _ _ (pj_ll_s1 hL _ _))
  case istore_n k => exact pj_pI_m fun _ _ => by rw [pj_ll_len hL]; exact pj_c_m (hg _ _ _ _ _ _ _ _ _ (pj_ll_s1 hL _ _))
  case lstore k => exact pj_pL_m fun _ _ => by rw [pj_ll_len hL]; exact pj_c_m (hg _ _ _ _ _ _ _ _ _ (pj_ll_s2 hL _ _))
  case lstore_n k => exact pj_pL_m fun _ _ => by rw [pj_ll_len hL]; exact pj_c_m (hg _ _ _ _ _ _ _ _ _ (pj_ll_s2 hL _ _))
  case iinc k c => exact pj_gI_m hL fun _ => hg _ _ _ _ _ _ _ _ _ (pj_ll_s1 hL _ _)
  case ldc k => rcases z with _ | z <;> exact g
  case if_icmp cd k => exact pj_pI_m fun _ _ => pj_pI_m fun _ _ h => by cases cd <;> exact ⟨fun c => g (h.1 c), fun c => g (h.2 c)⟩
  case ifCond cd k => exact pj_pI_m fun _ _ h => by cases cd <;> exact ⟨fun c => g (h.1 c), fun c => g (h.2 c)⟩
  case getfield k => exact pj_pR_m fun _ _ => pj_c_m (by rcases z with _ | _ | _ | z <;> first | exact g | exact pj_c_m g)
  case putfield k =>
    rcases z with _ | _ | _ | z
    · exact pj_pI_m fun _ _ => pj_pR_m fun _ _ => pj_c_m g
    · exact pj_pL_m fun _ _ => pj_pR_m fun _ _ => pj_c_m g
    · exact pj_pR_m fun _ _ => pj_pR_m fun _ _ => pj_c_m g
    · exact pj_pI_m fun _ _ => pj_pR_m fun _ _ => pj_c_m fun h => ⟨h.1, g h.2⟩
  case tableswitch a b c d => exact pj_pI_m fun _ _ => pj_sw_m (fun _ => g) _
  case lookupswitch a b => exact pj_pI_m fun _ _ => pj_sw_m (fun _ => g) _
  case invokevirtual k => exact pj_iv_m hC hg hL
  case invokespecial k => exact pj_ip_m hC hg hL
  case invokestatic k => exact pj_is_m hC hg hL
  case ireturn => exact pj_pI_m fun _ _ => pj_c_m (by cases rt <;> first | exact hQ _ _ | exact fun h => ⟨h.1, hQ _ _ h.2⟩)
  case lreturn => exact pj_pL_m fun _ _ => pj_c_m (hQ _ _)
  case return_ => exact pj_c_m (hQ _ _)
  case dup2 => exact pj_pV_m (st := st) (k := fun a st => pj_pV st fun b st => go nx L (a :: b :: a :: b :: st) Z I J bc bs) (k' := fun a st => pj_pV st fun b st => go' nx L' (a :: b :: a :: b :: st) Z I J bc bs) fun a r => pj_pV_m (st := r) (k := fun b st => go nx L (a :: b :: a :: b :: st) Z I J bc bs) (k' := fun b st => go' nx L' (a :: b :: a :: b :: st) Z I J bc bs) fun _ _ => g
  case dup => exact pj_pV_m (st := st) (k := fun a st => go nx L (a :: a :: st) Z I J bc bs) (k' := fun a st => go' nx L' (a :: a :: st) Z I J bc bs) fun _ _ => g
  case pop => exact pj_pV_m (st := st) (k := fun a st => go nx L st Z I J bc bs) (k' := fun a st => go' nx L' st Z I J bc bs) fun _ _ => g
  case aaload => exact pj_pI_m fun _ _ => pj_pR_m fun _ _ => pj_c_m fun h => ⟨h.1, pj_c_m g h.2⟩
  case arraylength => exact pj_pR_m fun _ _ => pj_c_m g
  case newarray k => exact pj_pI_m fun _ _ => pj_c_m g
  case anewarray k => exact pj_pI_m fun _ _ => pj_c_m g
  case multianewarray k j => exact pj_pI_m fun _ _ => pj_pI_m fun _ _ => pj_c_m g
  case new k => exact pj_c_m g
  all_goals first
    | exact g
    | exact pj_gR_m hL fun _ => g
    | exact pj_gI_m hL fun _ => g
    | exact pj_gL_m hL fun _ => g
    | exact pj_pR_m fun _ _ => pj_c_m g
    | exact pj_pI_m fun _ _ => pj_c_m g
    | exact pj_pL_m fun _ _ => pj_c_m g
    | exact pj_pI_m fun _ _ => pj_pI_m fun _ _ => g
    | exact pj_pL_m fun _ _ => pj_pL_m fun _ _ => g
    | exact pj_pI_m fun _ _ => pj_pL_m fun _ _ => g
    | exact pj_pI_m fun _ _ => pj_pI_m fun _ _ h => ⟨h.1, g h.2⟩
    | exact pj_pL_m fun _ _ => pj_pL_m fun _ _ h => ⟨h.1, g h.2⟩
    | exact pj_pI_m fun _ _ => g
    | exact pj_pL_m fun _ _ => g
    | exact pj_pV_m fun _ _ => g
    | exact pj_pI_m fun _ _ => pj_pR_m fun _ _ => pj_c_m fun h => ⟨h.1, g h.2⟩
    | exact pj_pI_m fun _ _ => pj_pI_m fun _ _ => pj_pR_m fun _ _ => pj_c_m fun h => ⟨h.1, g h.2⟩
    | exact pj_pL_m fun _ _ => pj_pI_m fun _ _ => pj_pR_m fun _ _ => pj_c_m fun h => ⟨h.1, g h.2⟩
    | exact pj_pR_m fun _ _ => pj_pI_m fun _ _ => pj_pR_m fun _ _ => pj_c_m fun h => ⟨h.1, g h.2⟩
    | exact id
section PJ
variable {C C' : pj_CT} {al : Nat → Nat × Nat} {M : pj_M} {rt : Bool} {Q Q' : pj_K} {pc : Nat} {L : pj_L} {st : List Value} {Z : pj_Z} {I : Nat → Nat → Int32} {J : Nat → Nat → Int64} {bc bs : Nat}
theorem pj_1_f (hC : pj_le C C') (hQ : ∀ r s, Q r s → Q' r s) {go go' : pj_G} (hg : ∀ pc L L' st Z I J bc bs, pj_ll L L' → go pc L st Z I J bc bs → go' pc L' st Z I J bc bs) {L' : pj_L} (hL : pj_ll L L') :
    pj_1 C al M rt Q go pc L st Z I J bc bs → pj_1 C' al M rt Q' go' pc L' st Z I J bc bs := by
  unfold pj_1
  cases pj_at pc M with
  | none => exact id
  | some e => exact pj_x_m hC hQ hg hL
theorem pj_ll_eq : ∀ {L L' : pj_L}, pj_ll L L' → True := fun _ => trivial
/-- less known of the locals is harder -/
theorem pj_1_m (hC : pj_le C C') (hQ : ∀ r s, Q r s → Q' r s) {go go' : pj_G} (hg : ∀ pc L L' st Z I J bc bs, pj_ll L L' → go pc L st Z I J bc bs → go' pc L' st Z I J bc bs) :
    pj_1 C al M rt Q go pc L st Z I J bc bs → pj_1 C' al M rt Q' go' pc L st Z I J bc bs := pj_1_f hC hQ hg (pj_ll_rf L)
/-- one instruction on; and less known of the locals is harder -/
theorem pj_R_f0 (hC : pj_le C C') (hC' : pj_le C' C') (hQ : ∀ r s, Q r s → Q' r s) (h : pj_R C al M rt Q pc L st Z I J bc bs) : ∀ L', pj_ll L L' → pj_R C' al M rt Q' pc L' st Z I J bc bs := by
  refine h (fun pc L st Z I J bc bs => ∀ L', pj_ll L L' → pj_R C' al M rt Q' pc L' st Z I J bc bs) (fun pc L st Z I J bc bs q L' hL P hP => ?_)
  exact hP _ _ _ _ _ _ _ _ (pj_1_f hC hQ (fun _ _ L2 _ _ _ _ _ _ h2 q2 => q2 L2 h2 P hP) hL q)
theorem pj_R_m (hC : pj_le C C') (hC' : pj_le C' C') (hQ : ∀ r s, Q r s → Q' r s) (h : pj_R C al M rt Q pc L st Z I J bc bs) : pj_R C' al M rt Q' pc L st Z I J bc bs := pj_R_f0 hC hC' hQ h L (pj_ll_rf L)
theorem pj_R_g (hC : pj_le C C) {L' : pj_L} (h : pj_R C al M rt Q pc L st Z I J bc bs) (hL : pj_ll L L') : pj_R C al M rt Q pc L' st Z I J bc bs := pj_R_f0 hC hC (fun _ _ q => q) h L' hL
theorem pj_R_f (hC : pj_le C C) {L' : pj_L} (hL : pj_ll L L') (h : pj_R C al M rt Q pc L st Z I J bc bs) : pj_R C al M rt Q pc L' st Z I J bc bs := pj_R_f0 hC hC (fun _ _ q => q) h L' hL
theorem pj_R_in (hC : pj_le C C) (h : pj_1 C al M rt Q (pj_R C al M rt Q) pc L st Z I J bc bs) : pj_R C al M rt Q pc L st Z I J bc bs := fun P hP =>
  hP _ _ _ _ _ _ _ _ (pj_1_m hC (fun _ _ q => q) (fun _ _ _ _ _ _ _ _ _ h2 q => pj_R_f hC h2 q P hP) h)
theorem pj_v_R (hC : pj_le C C) {cut : Nat → Bool} : ∀ (n pc : Nat) (L L' : pj_L) (st : List Value) (Z : pj_Z) (I : Nat → Nat → Int32) (J : Nat → Nat → Int64) (bc bs : Nat), pj_ll L L' → pj_v C al M rt Q cut n pc L st Z I J bc bs → pj_R C al M rt Q pc L' st Z I J bc bs
  | 0, _, _, _, _, _, _, _, _, _, _ => fun h => h.elim
  | n + 1, pc, L, L', st, Z, I, J, bc, bs, hL => by
    unfold pj_v
    cases cut pc with
    | true => exact pj_R_f hC hL
    | false => exact fun h => pj_R_in hC (pj_1_f hC (fun _ _ q => q) (pj_v_R hC n) hL h)
/-- from a place on, up to the cuts -/
theorem pj_go (hC : pj_le C C) (cut : Nat → Bool) (n : Nat) (h : pj_1 C al M rt Q (pj_v C al M rt Q cut n) pc L st Z I J bc bs) : pj_R C al M rt Q pc L st Z I J bc bs :=
  pj_R_in hC (pj_1_m hC (fun _ _ q => q) (pj_v_R hC n) h)
end PJ
theorem pj_C_le (T : Nat → Option pj_T) (al : Nat → Nat × Nat) : ∀ d, pj_le (pj_C T al d) (pj_C T al d) ∧ pj_le (pj_C T al d) (pj_C T al (d + 1))
  | 0 => ⟨fun _ _ _ _ _ _ h => h.elim, fun _ _ _ _ _ _ h => h.elim⟩
  | d + 1 => by
    obtain ⟨h1, h2⟩ := pj_C_le T al d
    have key : ∀ {d d' : Nat}, pj_le (pj_C T al d) (pj_C T al d') → pj_le (pj_C T al d') (pj_C T al d') → pj_le (pj_C T al (d + 1)) (pj_C T al (d' + 1)) := by
      intro d d' a b mi args σ K K' hK
      unfold pj_C
      cases T mi with
      | none => exact id
      | some t => exact pj_c_m (pj_R_m a b hK)
    have k1 := key h1 h1
    refine ⟨k1, ?_⟩
    exact key h2 (fun mi args σ K K' hK => k1 mi args σ K K' hK)
end
section
/-! the code of the methods, as rows of the pure machine (numbers of methods in the remarks) -/
abbrev qe (i : Instr) (l nx : Nat) : pj_E := (i, l, nx, (0, 0, 0), 0, 0, [])
abbrev qx (i : Instr) (l nx x y z : Nat) : pj_E := (i, l, nx, (x, y, z), 0, 0, [])
abbrev qw (i : Instr) (l nx : Nat) (w : Int32) : pj_E := (i, l, nx, (0, 0, 0), w, 0, [])
abbrev ql (i : Instr) (l nx : Nat) (v : Int64) : pj_E := (i, l, nx, (0, 0, 0), 0, v, [])
abbrev qs (i : Instr) (l nx x : Nat) (s : List (Int32 × Nat)) : pj_E := (i, l, nx, (x, 0, 0), 0, 0, s)
set_option maxRecDepth 100000 in
/-- 0: PegCoatsLaw.law([I)Z -/
noncomputable def mc_0 : pj_M := [(19, [(0, qx (.new 7) 3 3 11 16 0), (3, qe (.dup) 1 4), (4, qx (.invokespecial 9) 3 7 110 1 11), (7, qe (.astore_n 1) 1 8), (8, qx (.new 10) 3 11 12 67 0), (11, qe (.dup) 1 12), (12, qx (.invokespecial 12) 3 15 158 1 12), (15, qe (.astore_n 2) 1 16), (16, qw (.iconst 0) 1 17 0), (17, qe (.istore_n 3) 1 18), (18, qe (.iload_n 3) 1 19), (19, qe (.aload_n 0) 1 20)]), (177, [(20, qe (.arraylength) 1 21), (21, qw (.bipush 6) 2 23 6), (23, qe (.isub) 1 24), (24, qx (.if_icmp .gt 1035) 3 27 1059 0 0), (27, qe (.aload_n 0) 1 28), (28, qe (.iload_n 3) 1 29), (29, qe (.iaload) 1 30), (30, qw (.bipush 31) 2 32 31), (32, qe (.iand) 1 33), (33, qs (.tableswitch 1020 0 31 #[143, 206, 229, 242, 265, 288, 331, 364, 397, 431, 464, 497, 520, 543, 566, 609, 642, 675, 688, 711, 744, 767, 790, 823, 856, 879, 892, 915, 948, 961, 984, 997]) 143 176 1053 [(0, 176), (1, 239), (2, 262), (3, 275), (4, 298), (5, 321), (6, 364), (7, 397), (8, 430), (9, 464), (10, 497), (11, 530), (12, 553), (13, 576), (14, 599), (15, 642), (16, 675), (17, 708), (18, 721), (19, 744), (20, 777), (21, 800), (22, 823), (23, 856), (24, 889), (25, 912), (26, 925), (27, 948), (28, 981), (29, 994), (30, 1017), (31, 1030)]), (176, qe (.aload_n 1) 1 177), (177, qe (.aload_n 0) 1 178)]), (189, [(178, qe (.iload_n 3) 1 179), (179, qw (.iconst 1) 1 180 1), (180, qe (.iadd) 1 181), (181, qe (.iaload) 1 182), (182, qe (.aload_n 0) 1 183), (183, qe (.iload_n 3) 1 184), (184, qw (.iconst 2) 1 185 2), (185, qe (.iadd) 1 186), (186, qe (.iaload) 1 187), (187, qe (.aload_n 0) 1 188), (188, qe (.iload_n 3) 1 189), (189, qw (.iconst 3) 1 190 3)]), (201, [(190, qe (.iadd) 1 191), (191, qe (.iaload) 1 192), (192, qe (.aload_n 0) 1 193), (193, qe (.iload_n 3) 1 194), (194, qw (.iconst 4) 1 195 4), (195, qe (.iadd) 1 196), (196, qe (.iaload) 1 197), (197, qe (.aload_n 0) 1 198), (198, qe (.iload_n 3) 1 199), (199, qw (.iconst 5) 1 200 5), (200, qe (.iadd) 1 201), (201, qe (.iaload) 1 202)]), (215, [(202, qx (.invokevirtual 13) 3 205 111 6 11), (205, qe (.aload_n 2) 1 206), (206, qe (.aload_n 0) 1 207), (207, qe (.iload_n 3) 1 208), (208, qw (.iconst 1) 1 209 1), (209, qe (.iadd) 1 210), (210, qe (.iaload) 1 211), (211, qe (.aload_n 0) 1 212), (212, qe (.iload_n 3) 1 213), (213, qw (.iconst 2) 1 214 2), (214, qe (.iadd) 1 215), (215, qe (.iaload) 1 216)]), (227, [(216, qe (.aload_n 0) 1 217), (217, qe (.iload_n 3) 1 218), (218, qw (.iconst 3) 1 219 3), (219, qe (.iadd) 1 220), (220, qe (.iaload) 1 221), (221, qe (.aload_n 0) 1 222), (222, qe (.iload_n 3) 1 223), (223, qw (.iconst 4) 1 224 4), (224, qe (.iadd) 1 225), (225, qe (.iaload) 1 226), (226, qe (.aload_n 0) 1 227), (227, qe (.iload_n 3) 1 228)]), (243, [(228, qw (.iconst 5) 1 229 5), (229, qe (.iadd) 1 230), (230, qe (.iaload) 1 231), (231, qx (.invokevirtual 17) 3 234 159 6 12), (234, qx (.if_icmp .eq 819) 3 237 1053 0 0), (237, qw (.iconst 0) 1 238 0), (238, qe (.ireturn) 1 239), (239, qe (.aload_n 1) 1 240), (240, qe (.aload_n 0) 1 241), (241, qe (.iload_n 3) 1 242), (242, qw (.iconst 1) 1 243 1), (243, qe (.iadd) 1 244)]), (261, [(244, qe (.iaload) 1 245), (245, qx (.invokevirtual 18) 3 248 113 2 11), (248, qe (.aload_n 2) 1 249), (249, qe (.aload_n 0) 1 250), (250, qe (.iload_n 3) 1 251), (251, qw (.iconst 1) 1 252 1), (252, qe (.iadd) 1 253), (253, qe (.iaload) 1 254), (254, qx (.invokevirtual 22) 3 257 162 2 12), (257, qx (.if_icmp .eq 796) 3 260 1053 0 0), (260, qw (.iconst 0) 1 261 0), (261, qe (.ireturn) 1 262)]), (279, [(262, qe (.aload_n 1) 1 263), (263, qx (.invokevirtual 23) 3 266 115 1 11), (266, qe (.aload_n 2) 1 267), (267, qx (.invokevirtual 27) 3 270 163 1 12), (270, qx (.if_icmp .eq 783) 3 273 1053 0 0), (273, qw (.iconst 0) 1 274 0), (274, qe (.ireturn) 1 275), (275, qe (.aload_n 1) 1 276), (276, qe (.aload_n 0) 1 277), (277, qe (.iload_n 3) 1 278), (278, qw (.iconst 1) 1 279 1), (279, qe (.iadd) 1 280)]), (297, [(280, qe (.iaload) 1 281), (281, qx (.invokevirtual 28) 3 284 116 2 11), (284, qe (.aload_n 2) 1 285), (285, qe (.aload_n 0) 1 286), (286, qe (.iload_n 3) 1 287), (287, qw (.iconst 1) 1 288 1), (288, qe (.iadd) 1 289), (289, qe (.iaload) 1 290), (290, qx (.invokevirtual 32) 3 293 200 2 12), (293, qx (.if_icmp .eq 760) 3 296 1053 0 0), (296, qw (.iconst 0) 1 297 0), (297, qe (.ireturn) 1 298)]), (311, [(298, qe (.aload_n 1) 1 299), (299, qe (.aload_n 0) 1 300), (300, qe (.iload_n 3) 1 301), (301, qw (.iconst 1) 1 302 1), (302, qe (.iadd) 1 303), (303, qe (.iaload) 1 304), (304, qx (.invokevirtual 33) 3 307 117 2 11), (307, qe (.aload_n 2) 1 308), (308, qe (.aload_n 0) 1 309), (309, qe (.iload_n 3) 1 310), (310, qw (.iconst 1) 1 311 1), (311, qe (.iadd) 1 312)]), (327, [(312, qe (.iaload) 1 313), (313, qx (.invokevirtual 36) 3 316 205 2 12), (316, qx (.if_icmp .eq 737) 3 319 1053 0 0), (319, qw (.iconst 0) 1 320 0), (320, qe (.ireturn) 1 321), (321, qe (.aload_n 1) 1 322), (322, qe (.aload_n 0) 1 323), (323, qe (.iload_n 3) 1 324), (324, qw (.iconst 1) 1 325 1), (325, qe (.iadd) 1 326), (326, qe (.iaload) 1 327), (327, qe (.aload_n 0) 1 328)]), (341, [(328, qe (.iload_n 3) 1 329), (329, qw (.iconst 2) 1 330 2), (330, qe (.iadd) 1 331), (331, qe (.iaload) 1 332), (332, qe (.aload_n 0) 1 333), (333, qe (.iload_n 3) 1 334), (334, qw (.iconst 3) 1 335 3), (335, qe (.iadd) 1 336), (336, qe (.iaload) 1 337), (337, qx (.invokevirtual 37) 3 340 119 4 11), (340, qe (.aload_n 2) 1 341), (341, qe (.aload_n 0) 1 342)]), (353, [(342, qe (.iload_n 3) 1 343), (343, qw (.iconst 1) 1 344 1), (344, qe (.iadd) 1 345), (345, qe (.iaload) 1 346), (346, qe (.aload_n 0) 1 347), (347, qe (.iload_n 3) 1 348), (348, qw (.iconst 2) 1 349 2), (349, qe (.iadd) 1 350), (350, qe (.iaload) 1 351), (351, qe (.aload_n 0) 1 352), (352, qe (.iload_n 3) 1 353), (353, qw (.iconst 3) 1 354 3)]), (369, [(354, qe (.iadd) 1 355), (355, qe (.iaload) 1 356), (356, qx (.invokevirtual 41) 3 359 210 4 12), (359, qx (.if_icmp .eq 694) 3 362 1053 0 0), (362, qw (.iconst 0) 1 363 0), (363, qe (.ireturn) 1 364), (364, qe (.aload_n 1) 1 365), (365, qe (.aload_n 0) 1 366), (366, qe (.iload_n 3) 1 367), (367, qw (.iconst 1) 1 368 1), (368, qe (.iadd) 1 369), (369, qe (.iaload) 1 370)]), (383, [(370, qe (.aload_n 0) 1 371), (371, qe (.iload_n 3) 1 372), (372, qw (.iconst 2) 1 373 2), (373, qe (.iadd) 1 374), (374, qe (.iaload) 1 375), (375, qx (.invokevirtual 42) 3 378 123 3 11), (378, qe (.aload_n 2) 1 379), (379, qe (.aload_n 0) 1 380), (380, qe (.iload_n 3) 1 381), (381, qw (.iconst 1) 1 382 1), (382, qe (.iadd) 1 383), (383, qe (.iaload) 1 384)]), (399, [(384, qe (.aload_n 0) 1 385), (385, qe (.iload_n 3) 1 386), (386, qw (.iconst 2) 1 387 2), (387, qe (.iadd) 1 388), (388, qe (.iaload) 1 389), (389, qx (.invokevirtual 46) 3 392 213 3 12), (392, qx (.if_icmp .eq 661) 3 395 1053 0 0), (395, qw (.iconst 0) 1 396 0), (396, qe (.ireturn) 1 397), (397, qe (.aload_n 1) 1 398), (398, qe (.aload_n 0) 1 399), (399, qe (.iload_n 3) 1 400)]), (413, [(400, qw (.iconst 1) 1 401 1), (401, qe (.iadd) 1 402), (402, qe (.iaload) 1 403), (403, qe (.aload_n 0) 1 404), (404, qe (.iload_n 3) 1 405), (405, qw (.iconst 2) 1 406 2), (406, qe (.iadd) 1 407), (407, qe (.iaload) 1 408), (408, qx (.invokevirtual 47) 3 411 124 3 11), (411, qe (.aload_n 2) 1 412), (412, qe (.aload_n 0) 1 413), (413, qe (.iload_n 3) 1 414)]), (429, [(414, qw (.iconst 1) 1 415 1), (415, qe (.iadd) 1 416), (416, qe (.iaload) 1 417), (417, qe (.aload_n 0) 1 418), (418, qe (.iload_n 3) 1 419), (419, qw (.iconst 2) 1 420 2), (420, qe (.iadd) 1 421), (421, qe (.iaload) 1 422), (422, qx (.invokevirtual 50) 3 425 214 3 12), (425, qx (.if_icmp .eq 628) 3 428 1053 0 0), (428, qw (.iconst 0) 1 429 0), (429, qe (.ireturn) 1 430)]), (441, [(430, qe (.aload_n 1) 1 431), (431, qe (.aload_n 0) 1 432), (432, qe (.iload_n 3) 1 433), (433, qw (.iconst 1) 1 434 1), (434, qe (.iadd) 1 435), (435, qe (.iaload) 1 436), (436, qe (.aload_n 0) 1 437), (437, qe (.iload_n 3) 1 438), (438, qw (.iconst 2) 1 439 2), (439, qe (.iadd) 1 440), (440, qe (.iaload) 1 441), (441, qx (.invokevirtual 51) 3 444 125 3 11)]), (455, [(444, qe (.aload_n 2) 1 445), (445, qe (.aload_n 0) 1 446), (446, qe (.iload_n 3) 1 447), (447, qw (.iconst 1) 1 448 1), (448, qe (.iadd) 1 449), (449, qe (.iaload) 1 450), (450, qe (.aload_n 0) 1 451), (451, qe (.iload_n 3) 1 452), (452, qw (.iconst 2) 1 453 2), (453, qe (.iadd) 1 454), (454, qe (.iaload) 1 455), (455, qx (.invokevirtual 55) 3 458 215 3 12)]), (471, [(458, qe (.lcmp) 1 459), (459, qx (.ifCond .eq 594) 3 462 1053 0 0), (462, qw (.iconst 0) 1 463 0), (463, qe (.ireturn) 1 464), (464, qe (.aload_n 1) 1 465), (465, qe (.aload_n 0) 1 466), (466, qe (.iload_n 3) 1 467), (467, qw (.iconst 1) 1 468 1), (468, qe (.iadd) 1 469), (469, qe (.iaload) 1 470), (470, qe (.aload_n 0) 1 471), (471, qe (.iload_n 3) 1 472)]), (485, [(472, qw (.iconst 2) 1 473 2), (473, qe (.iadd) 1 474), (474, qe (.iaload) 1 475), (475, qx (.invokevirtual 56) 3 478 126 3 11), (478, qe (.aload_n 2) 1 479), (479, qe (.aload_n 0) 1 480), (480, qe (.iload_n 3) 1 481), (481, qw (.iconst 1) 1 482 1), (482, qe (.iadd) 1 483), (483, qe (.iaload) 1 484), (484, qe (.aload_n 0) 1 485), (485, qe (.iload_n 3) 1 486)]), (501, [(486, qw (.iconst 2) 1 487 2), (487, qe (.iadd) 1 488), (488, qe (.iaload) 1 489), (489, qx (.invokevirtual 59) 3 492 223 3 12), (492, qx (.if_icmp .eq 561) 3 495 1053 0 0), (495, qw (.iconst 0) 1 496 0), (496, qe (.ireturn) 1 497), (497, qe (.aload_n 1) 1 498), (498, qe (.aload_n 0) 1 499), (499, qe (.iload_n 3) 1 500), (500, qw (.iconst 1) 1 501 1), (501, qe (.iadd) 1 502)]), (515, [(502, qe (.iaload) 1 503), (503, qe (.aload_n 0) 1 504), (504, qe (.iload_n 3) 1 505), (505, qw (.iconst 2) 1 506 2), (506, qe (.iadd) 1 507), (507, qe (.iaload) 1 508), (508, qx (.invokevirtual 60) 3 511 129 3 11), (511, qe (.aload_n 2) 1 512), (512, qe (.aload_n 0) 1 513), (513, qe (.iload_n 3) 1 514), (514, qw (.iconst 1) 1 515 1), (515, qe (.iadd) 1 516)]), (531, [(516, qe (.iaload) 1 517), (517, qe (.aload_n 0) 1 518), (518, qe (.iload_n 3) 1 519), (519, qw (.iconst 2) 1 520 2), (520, qe (.iadd) 1 521), (521, qe (.iaload) 1 522), (522, qx (.invokevirtual 63) 3 525 232 3 12), (525, qx (.if_icmp .eq 528) 3 528 1053 0 0), (528, qw (.iconst 0) 1 529 0), (529, qe (.ireturn) 1 530), (530, qe (.aload_n 1) 1 531), (531, qe (.aload_n 0) 1 532)]), (545, [(532, qe (.iload_n 3) 1 533), (533, qw (.iconst 1) 1 534 1), (534, qe (.iadd) 1 535), (535, qe (.iaload) 1 536), (536, qx (.invokevirtual 64) 3 539 130 2 11), (539, qe (.aload_n 2) 1 540), (540, qe (.aload_n 0) 1 541), (541, qe (.iload_n 3) 1 542), (542, qw (.iconst 1) 1 543 1), (543, qe (.iadd) 1 544), (544, qe (.iaload) 1 545), (545, qx (.invokevirtual 67) 3 548 233 2 12)]), (563, [(548, qx (.if_icmp .eq 505) 3 551 1053 0 0), (551, qw (.iconst 0) 1 552 0), (552, qe (.ireturn) 1 553), (553, qe (.aload_n 1) 1 554), (554, qe (.aload_n 0) 1 555), (555, qe (.iload_n 3) 1 556), (556, qw (.iconst 1) 1 557 1), (557, qe (.iadd) 1 558), (558, qe (.iaload) 1 559), (559, qx (.invokevirtual 68) 3 562 132 2 11), (562, qe (.aload_n 2) 1 563), (563, qe (.aload_n 0) 1 564)]), (579, [(564, qe (.iload_n 3) 1 565), (565, qw (.iconst 1) 1 566 1), (566, qe (.iadd) 1 567), (567, qe (.iaload) 1 568), (568, qx (.invokevirtual 71) 3 571 235 2 12), (571, qx (.if_icmp .eq 482) 3 574 1053 0 0), (574, qw (.iconst 0) 1 575 0), (575, qe (.ireturn) 1 576), (576, qe (.aload_n 1) 1 577), (577, qe (.aload_n 0) 1 578), (578, qe (.iload_n 3) 1 579), (579, qw (.iconst 1) 1 580 1)]), (597, [(580, qe (.iadd) 1 581), (581, qe (.iaload) 1 582), (582, qx (.invokevirtual 72) 3 585 133 2 11), (585, qe (.aload_n 2) 1 586), (586, qe (.aload_n 0) 1 587), (587, qe (.iload_n 3) 1 588), (588, qw (.iconst 1) 1 589 1), (589, qe (.iadd) 1 590), (590, qe (.iaload) 1 591), (591, qx (.invokevirtual 75) 3 594 238 2 12), (594, qx (.if_icmp .eq 459) 3 597 1053 0 0), (597, qw (.iconst 0) 1 598 0)]), (609, [(598, qe (.ireturn) 1 599), (599, qe (.aload_n 1) 1 600), (600, qe (.aload_n 0) 1 601), (601, qe (.iload_n 3) 1 602), (602, qw (.iconst 1) 1 603 1), (603, qe (.iadd) 1 604), (604, qe (.iaload) 1 605), (605, qe (.aload_n 0) 1 606), (606, qe (.iload_n 3) 1 607), (607, qw (.iconst 2) 1 608 2), (608, qe (.iadd) 1 609), (609, qe (.iaload) 1 610)]), (623, [(610, qe (.aload_n 0) 1 611), (611, qe (.iload_n 3) 1 612), (612, qw (.iconst 3) 1 613 3), (613, qe (.iadd) 1 614), (614, qe (.iaload) 1 615), (615, qx (.invokevirtual 76) 3 618 136 4 11), (618, qe (.aload_n 2) 1 619), (619, qe (.aload_n 0) 1 620), (620, qe (.iload_n 3) 1 621), (621, qw (.iconst 1) 1 622 1), (622, qe (.iadd) 1 623), (623, qe (.iaload) 1 624)]), (637, [(624, qe (.aload_n 0) 1 625), (625, qe (.iload_n 3) 1 626), (626, qw (.iconst 2) 1 627 2), (627, qe (.iadd) 1 628), (628, qe (.iaload) 1 629), (629, qe (.aload_n 0) 1 630), (630, qe (.iload_n 3) 1 631), (631, qw (.iconst 3) 1 632 3), (632, qe (.iadd) 1 633), (633, qe (.iaload) 1 634), (634, qx (.invokevirtual 79) 3 637 239 4 12), (637, qx (.if_icmp .eq 416) 3 640 1053 0 0)]), (651, [(640, qw (.iconst 0) 1 641 0), (641, qe (.ireturn) 1 642), (642, qe (.aload_n 1) 1 643), (643, qe (.aload_n 0) 1 644), (644, qe (.iload_n 3) 1 645), (645, qw (.iconst 1) 1 646 1), (646, qe (.iadd) 1 647), (647, qe (.iaload) 1 648), (648, qe (.aload_n 0) 1 649), (649, qe (.iload_n 3) 1 650), (650, qw (.iconst 2) 1 651 2), (651, qe (.iadd) 1 652)]), (665, [(652, qe (.iaload) 1 653), (653, qx (.invokevirtual 80) 3 656 137 3 11), (656, qe (.aload_n 2) 1 657), (657, qe (.aload_n 0) 1 658), (658, qe (.iload_n 3) 1 659), (659, qw (.iconst 1) 1 660 1), (660, qe (.iadd) 1 661), (661, qe (.iaload) 1 662), (662, qe (.aload_n 0) 1 663), (663, qe (.iload_n 3) 1 664), (664, qw (.iconst 2) 1 665 2), (665, qe (.iadd) 1 666)]), (681, [(666, qe (.iaload) 1 667), (667, qx (.invokevirtual 83) 3 670 242 3 12), (670, qx (.if_icmp .eq 383) 3 673 1053 0 0), (673, qw (.iconst 0) 1 674 0), (674, qe (.ireturn) 1 675), (675, qe (.aload_n 1) 1 676), (676, qe (.aload_n 0) 1 677), (677, qe (.iload_n 3) 1 678), (678, qw (.iconst 1) 1 679 1), (679, qe (.iadd) 1 680), (680, qe (.iaload) 1 681), (681, qe (.aload_n 0) 1 682)]), (695, [(682, qe (.iload_n 3) 1 683), (683, qw (.iconst 2) 1 684 2), (684, qe (.iadd) 1 685), (685, qe (.iaload) 1 686), (686, qx (.invokevirtual 84) 3 689 138 3 11), (689, qe (.aload_n 2) 1 690), (690, qe (.aload_n 0) 1 691), (691, qe (.iload_n 3) 1 692), (692, qw (.iconst 1) 1 693 1), (693, qe (.iadd) 1 694), (694, qe (.iaload) 1 695), (695, qe (.aload_n 0) 1 696)]), (713, [(696, qe (.iload_n 3) 1 697), (697, qw (.iconst 2) 1 698 2), (698, qe (.iadd) 1 699), (699, qe (.iaload) 1 700), (700, qx (.invokevirtual 87) 3 703 243 3 12), (703, qx (.if_icmp .eq 350) 3 706 1053 0 0), (706, qw (.iconst 0) 1 707 0), (707, qe (.ireturn) 1 708), (708, qe (.aload_n 1) 1 709), (709, qx (.invokevirtual 88) 3 712 139 1 11), (712, qe (.aload_n 2) 1 713), (713, qx (.invokevirtual 91) 3 716 244 1 12)]), (731, [(716, qx (.if_icmp .eq 337) 3 719 1053 0 0), (719, qw (.iconst 0) 1 720 0), (720, qe (.ireturn) 1 721), (721, qe (.aload_n 1) 1 722), (722, qe (.aload_n 0) 1 723), (723, qe (.iload_n 3) 1 724), (724, qw (.iconst 1) 1 725 1), (725, qe (.iadd) 1 726), (726, qe (.iaload) 1 727), (727, qx (.invokevirtual 92) 3 730 140 2 11), (730, qe (.aload_n 2) 1 731), (731, qe (.aload_n 0) 1 732)]), (747, [(732, qe (.iload_n 3) 1 733), (733, qw (.iconst 1) 1 734 1), (734, qe (.iadd) 1 735), (735, qe (.iaload) 1 736), (736, qx (.invokevirtual 95) 3 739 245 2 12), (739, qx (.if_icmp .eq 314) 3 742 1053 0 0), (742, qw (.iconst 0) 1 743 0), (743, qe (.ireturn) 1 744), (744, qe (.aload_n 1) 1 745), (745, qe (.aload_n 0) 1 746), (746, qe (.iload_n 3) 1 747), (747, qw (.iconst 1) 1 748 1)]), (761, [(748, qe (.iadd) 1 749), (749, qe (.iaload) 1 750), (750, qe (.aload_n 0) 1 751), (751, qe (.iload_n 3) 1 752), (752, qw (.iconst 2) 1 753 2), (753, qe (.iadd) 1 754), (754, qe (.iaload) 1 755), (755, qx (.invokevirtual 96) 3 758 141 3 11), (758, qe (.aload_n 2) 1 759), (759, qe (.aload_n 0) 1 760), (760, qe (.iload_n 3) 1 761), (761, qw (.iconst 1) 1 762 1)]), (777, [(762, qe (.iadd) 1 763), (763, qe (.iaload) 1 764), (764, qe (.aload_n 0) 1 765), (765, qe (.iload_n 3) 1 766), (766, qw (.iconst 2) 1 767 2), (767, qe (.iadd) 1 768), (768, qe (.iaload) 1 769), (769, qx (.invokevirtual 99) 3 772 247 3 12), (772, qx (.if_icmp .eq 281) 3 775 1053 0 0), (775, qw (.iconst 0) 1 776 0), (776, qe (.ireturn) 1 777), (777, qe (.aload_n 1) 1 778)]), (791, [(778, qe (.aload_n 0) 1 779), (779, qe (.iload_n 3) 1 780), (780, qw (.iconst 1) 1 781 1), (781, qe (.iadd) 1 782), (782, qe (.iaload) 1 783), (783, qx (.invokevirtual 100) 3 786 142 2 11), (786, qe (.aload_n 2) 1 787), (787, qe (.aload_n 0) 1 788), (788, qe (.iload_n 3) 1 789), (789, qw (.iconst 1) 1 790 1), (790, qe (.iadd) 1 791), (791, qe (.iaload) 1 792)]), (809, [(792, qx (.invokevirtual 103) 3 795 249 2 12), (795, qx (.if_icmp .eq 258) 3 798 1053 0 0), (798, qw (.iconst 0) 1 799 0), (799, qe (.ireturn) 1 800), (800, qe (.aload_n 1) 1 801), (801, qe (.aload_n 0) 1 802), (802, qe (.iload_n 3) 1 803), (803, qw (.iconst 1) 1 804 1), (804, qe (.iadd) 1 805), (805, qe (.iaload) 1 806), (806, qx (.invokevirtual 104) 3 809 144 2 11), (809, qe (.aload_n 2) 1 810)]), (825, [(810, qe (.aload_n 0) 1 811), (811, qe (.iload_n 3) 1 812), (812, qw (.iconst 1) 1 813 1), (813, qe (.iadd) 1 814), (814, qe (.iaload) 1 815), (815, qx (.invokevirtual 107) 3 818 251 2 12), (818, qx (.if_icmp .eq 235) 3 821 1053 0 0), (821, qw (.iconst 0) 1 822 0), (822, qe (.ireturn) 1 823), (823, qe (.aload_n 1) 1 824), (824, qe (.aload_n 0) 1 825), (825, qe (.iload_n 3) 1 826)]), (839, [(826, qw (.iconst 1) 1 827 1), (827, qe (.iadd) 1 828), (828, qe (.iaload) 1 829), (829, qe (.aload_n 0) 1 830), (830, qe (.iload_n 3) 1 831), (831, qw (.iconst 2) 1 832 2), (832, qe (.iadd) 1 833), (833, qe (.iaload) 1 834), (834, qx (.invokevirtual 108) 3 837 147 3 11), (837, qe (.aload_n 2) 1 838), (838, qe (.aload_n 0) 1 839), (839, qe (.iload_n 3) 1 840)]), (855, [(840, qw (.iconst 1) 1 841 1), (841, qe (.iadd) 1 842), (842, qe (.iaload) 1 843), (843, qe (.aload_n 0) 1 844), (844, qe (.iload_n 3) 1 845), (845, qw (.iconst 2) 1 846 2), (846, qe (.iadd) 1 847), (847, qe (.iaload) 1 848), (848, qx (.invokevirtual 112) 3 851 254 3 12), (851, qx (.if_icmp .eq 202) 3 854 1053 0 0), (854, qw (.iconst 0) 1 855 0), (855, qe (.ireturn) 1 856)]), (867, [(856, qe (.aload_n 1) 1 857), (857, qe (.aload_n 0) 1 858), (858, qe (.iload_n 3) 1 859), (859, qw (.iconst 1) 1 860 1), (860, qe (.iadd) 1 861), (861, qe (.iaload) 1 862), (862, qe (.aload_n 0) 1 863), (863, qe (.iload_n 3) 1 864), (864, qw (.iconst 2) 1 865 2), (865, qe (.iadd) 1 866), (866, qe (.iaload) 1 867), (867, qx (.invokevirtual 113) 3 870 148 3 11)]), (881, [(870, qe (.aload_n 2) 1 871), (871, qe (.aload_n 0) 1 872), (872, qe (.iload_n 3) 1 873), (873, qw (.iconst 1) 1 874 1), (874, qe (.iadd) 1 875), (875, qe (.iaload) 1 876), (876, qe (.aload_n 0) 1 877), (877, qe (.iload_n 3) 1 878), (878, qw (.iconst 2) 1 879 2), (879, qe (.iadd) 1 880), (880, qe (.iaload) 1 881), (881, qx (.invokevirtual 116) 3 884 255 3 12)]), (899, [(884, qx (.if_icmp .eq 169) 3 887 1053 0 0), (887, qw (.iconst 0) 1 888 0), (888, qe (.ireturn) 1 889), (889, qe (.aload_n 1) 1 890), (890, qe (.aload_n 0) 1 891), (891, qe (.iload_n 3) 1 892), (892, qw (.iconst 1) 1 893 1), (893, qe (.iadd) 1 894), (894, qe (.iaload) 1 895), (895, qx (.invokevirtual 117) 3 898 150 2 11), (898, qe (.aload_n 2) 1 899), (899, qe (.aload_n 0) 1 900)]), (917, [(900, qe (.iload_n 3) 1 901), (901, qw (.iconst 1) 1 902 1), (902, qe (.iadd) 1 903), (903, qe (.iaload) 1 904), (904, qx (.invokevirtual 120) 3 907 256 2 12), (907, qx (.if_icmp .eq 146) 3 910 1053 0 0), (910, qw (.iconst 0) 1 911 0), (911, qe (.ireturn) 1 912), (912, qe (.aload_n 1) 1 913), (913, qx (.invokevirtual 121) 3 916 151 1 11), (916, qe (.aload_n 2) 1 917), (917, qx (.invokevirtual 125) 3 920 202 1 12)]), (935, [(920, qx (.if_icmp .eq 133) 3 923 1053 0 0), (923, qw (.iconst 0) 1 924 0), (924, qe (.ireturn) 1 925), (925, qe (.aload_n 1) 1 926), (926, qe (.aload_n 0) 1 927), (927, qe (.iload_n 3) 1 928), (928, qw (.iconst 1) 1 929 1), (929, qe (.iadd) 1 930), (930, qe (.iaload) 1 931), (931, qx (.invokevirtual 126) 3 934 152 2 11), (934, qe (.aload_n 2) 1 935), (935, qe (.aload_n 0) 1 936)]), (951, [(936, qe (.iload_n 3) 1 937), (937, qw (.iconst 1) 1 938 1), (938, qe (.iadd) 1 939), (939, qe (.iaload) 1 940), (940, qx (.invokevirtual 129) 3 943 257 2 12), (943, qx (.if_icmp .eq 110) 3 946 1053 0 0), (946, qw (.iconst 0) 1 947 0), (947, qe (.ireturn) 1 948), (948, qe (.aload_n 1) 1 949), (949, qe (.aload_n 0) 1 950), (950, qe (.iload_n 3) 1 951), (951, qw (.iconst 1) 1 952 1)]), (965, [(952, qe (.iadd) 1 953), (953, qe (.iaload) 1 954), (954, qe (.aload_n 0) 1 955), (955, qe (.iload_n 3) 1 956), (956, qw (.iconst 2) 1 957 2), (957, qe (.iadd) 1 958), (958, qe (.iaload) 1 959), (959, qx (.invokevirtual 130) 3 962 153 3 11), (962, qe (.aload_n 2) 1 963), (963, qe (.aload_n 0) 1 964), (964, qe (.iload_n 3) 1 965), (965, qw (.iconst 1) 1 966 1)]), (981, [(966, qe (.iadd) 1 967), (967, qe (.iaload) 1 968), (968, qe (.aload_n 0) 1 969), (969, qe (.iload_n 3) 1 970), (970, qw (.iconst 2) 1 971 2), (971, qe (.iadd) 1 972), (972, qe (.iaload) 1 973), (973, qx (.invokevirtual 133) 3 976 258 3 12), (976, qx (.if_icmp .eq 77) 3 979 1053 0 0), (979, qw (.iconst 0) 1 980 0), (980, qe (.ireturn) 1 981), (981, qe (.aload_n 1) 1 982)]), (999, [(982, qx (.invokevirtual 134) 3 985 154 1 11), (985, qe (.aload_n 2) 1 986), (986, qx (.invokevirtual 137) 3 989 259 1 12), (989, qx (.if_icmp .eq 64) 3 992 1053 0 0), (992, qw (.iconst 0) 1 993 0), (993, qe (.ireturn) 1 994), (994, qe (.aload_n 1) 1 995), (995, qe (.aload_n 0) 1 996), (996, qe (.iload_n 3) 1 997), (997, qw (.iconst 1) 1 998 1), (998, qe (.iadd) 1 999), (999, qe (.iaload) 1 1000)]), (1017, [(1000, qx (.invokevirtual 138) 3 1003 155 2 11), (1003, qe (.aload_n 2) 1 1004), (1004, qe (.aload_n 0) 1 1005), (1005, qe (.iload_n 3) 1 1006), (1006, qw (.iconst 1) 1 1007 1), (1007, qe (.iadd) 1 1008), (1008, qe (.iaload) 1 1009), (1009, qx (.invokevirtual 141) 3 1012 261 2 12), (1012, qx (.if_icmp .eq 41) 3 1015 1053 0 0), (1015, qw (.iconst 0) 1 1016 0), (1016, qe (.ireturn) 1 1017), (1017, qe (.aload_n 1) 1 1018)]), (1035, [(1018, qx (.invokevirtual 142) 3 1021 156 1 11), (1021, qe (.aload_n 2) 1 1022), (1022, qx (.invokevirtual 145) 3 1025 262 1 12), (1025, qx (.if_icmp .eq 28) 3 1028 1053 0 0), (1028, qw (.iconst 0) 1 1029 0), (1029, qe (.ireturn) 1 1030), (1030, qe (.aload_n 1) 1 1031), (1031, qe (.aload_n 0) 1 1032), (1032, qe (.iload_n 3) 1 1033), (1033, qw (.iconst 1) 1 1034 1), (1034, qe (.iadd) 1 1035), (1035, qe (.iaload) 1 1036)]), (1053, [(1036, qx (.invokevirtual 146) 3 1039 157 2 11), (1039, qe (.aload_n 2) 1 1040), (1040, qe (.aload_n 0) 1 1041), (1041, qe (.iload_n 3) 1 1042), (1042, qw (.iconst 1) 1 1043 1), (1043, qe (.iadd) 1 1044), (1044, qe (.iaload) 1 1045), (1045, qx (.invokevirtual 149) 3 1048 201 2 12), (1048, qx (.if_icmp .eq 5) 3 1051 1053 0 0), (1051, qw (.iconst 0) 1 1052 0), (1052, qe (.ireturn) 1 1053), (1053, qw (.iinc 3 6) 3 1056 6)]), (1060, [(1056, qx (.goto (-1038)) 3 1059 18 0 0), (1059, qw (.iconst 1) 1 1060 1), (1060, qe (.ireturn) 1 1061)])]
noncomputable def mt_0 : pj_T := ((⟨"PegCoatsLaw", "law", "([I)Z"⟩, code, 4, (some .boolean)), (13, true), mc_0)
set_option maxRecDepth 100000 in
/-- 1: PegCoats$Course.<init>(LPegCoats$Works;)V -/
noncomputable def mc_1 : pj_M := [(19, [(0, qe (.aload_n 0) 1 1), (1, qx (.invokespecial 3) 3 4 1000 1 0), (4, qe (.aload_n 0) 1 5), (5, qw (.iconst 0) 1 6 0), (6, qx (.putfield 9) 3 9 0 1 0), (9, qe (.aload_n 0) 1 10), (10, qw (.iconst 0) 1 11 0), (11, qx (.putfield 15) 3 14 0 2 0), (14, qe (.aload_n 0) 1 15), (15, qe (.aload_n 1) 1 16), (16, qx (.putfield 18) 3 19 0 0 2), (19, qe (.return_) 1 20)])]
noncomputable def mt_1 : pj_T := ((⟨"PegCoats$Course", "<init>", "(LPegCoats$Works;)V"⟩, prog_2_method_1_code, 2, none), (0, false), mc_1)
set_option maxRecDepth 100000 in
/-- 2: PegCoats$Course.oneYear(LPegCoats$State;I)V -/
noncomputable def mc_2 : pj_M := [(17, [(0, qe (.aload_n 0) 1 1), (1, qe (.aload_n 1) 1 2), (2, qx (.invokevirtual 22) 3 5 3 2 0), (5, qe (.aload_n 0) 1 6), (6, qe (.aload_n 1) 1 7), (7, qx (.invokevirtual 26) 3 10 4 2 0), (10, qe (.aload_n 0) 1 11), (11, qe (.aload_n 1) 1 12), (12, qe (.iload_n 2) 1 13), (13, qx (.invokevirtual 29) 3 16 5 3 0), (16, qe (.aload_n 0) 1 17), (17, qe (.aload_n 1) 1 18)]), (41, [(18, qx (.invokevirtual 33) 3 21 7 2 0), (21, qe (.aload_n 1) 1 22), (22, qx (.getfield 36) 3 25 7 7 0), (25, qw (.sipush 999) 3 28 999), (28, qx (.if_icmp .ge 13) 3 31 41 0 0), (31, qe (.aload_n 1) 1 32), (32, qe (.dup) 1 33), (33, qx (.getfield 36) 3 36 7 7 0), (36, qw (.iconst 1) 1 37 1), (37, qe (.iadd) 1 38), (38, qx (.putfield 36) 3 41 7 7 0), (41, qe (.return_) 1 42)])]
noncomputable def mt_2 : pj_T := ((⟨"PegCoats$Course", "oneYear", "(LPegCoats$State;I)V"⟩, prog_2_method_2_code, 3, none), (0, false), mc_2)
set_option maxRecDepth 100000 in
/-- 3: PegCoats$Course.growAll(LPegCoats$State;)V -/
noncomputable def mc_3 : pj_M := [(19, [(0, qw (.iconst 0) 1 1 0), (1, qe (.istore_n 2) 1 2), (2, qe (.iload_n 2) 1 3), (3, qe (.aload_n 0) 1 4), (4, qx (.getfield 18) 3 7 0 0 2), (7, qx (.getfield 41) 3 10 10 13 0), (10, qx (.if_icmp .ge 66) 3 13 76 0 0), (13, qe (.aload_n 1) 1 14), (14, qx (.getfield 46) 3 17 7 6 2), (17, qe (.iload_n 2) 1 18), (18, qe (.baload) 1 19), (19, qx (.ifCond .eq 51) 3 22 70 0 0)]), (41, [(22, qe (.aload_n 1) 1 23), (23, qx (.getfield 50) 3 26 7 2 2), (26, qe (.iload_n 2) 1 27), (27, qe (.aload_n 0) 1 28), (28, qx (.getfield 18) 3 31 0 0 2), (31, qe (.aload_n 1) 1 32), (32, qx (.getfield 50) 3 35 7 2 2), (35, qe (.iload_n 2) 1 36), (36, qe (.iaload) 1 37), (37, qe (.aload_n 1) 1 38), (38, qx (.getfield 54) 3 41 7 3 2), (41, qe (.iload_n 2) 1 42)]), (62, [(42, qe (.iaload) 1 43), (43, qe (.aload_n 1) 1 44), (44, qx (.getfield 36) 3 47 7 7 0), (47, qx (.invokevirtual 57) 3 50 108 4 10), (50, qe (.iastore) 1 51), (51, qe (.aload_n 1) 1 52), (52, qx (.getfield 54) 3 55 7 3 2), (55, qe (.iload_n 2) 1 56), (56, qw (.bipush 99) 2 58 99), (58, qe (.aload_n 1) 1 59), (59, qx (.getfield 54) 3 62 7 3 2), (62, qe (.iload_n 2) 1 63)]), (76, [(63, qe (.iaload) 1 64), (64, qw (.iconst 1) 1 65 1), (65, qe (.iadd) 1 66), (66, qx (.invokestatic 61) 3 69 1001 2 0), (69, qe (.iastore) 1 70), (70, qw (.iinc 2 1) 3 73 1), (73, qx (.goto (-71)) 3 76 2 0 0), (76, qe (.return_) 1 77)])]
noncomputable def mt_3 : pj_T := ((⟨"PegCoats$Course", "growAll", "(LPegCoats$State;)V"⟩, prog_2_method_3_code, 3, none), (0, false), mc_3)
set_option maxRecDepth 100000 in
/-- 4: PegCoats$Course.leaveAll(LPegCoats$State;)V -/
noncomputable def mc_4 : pj_M := [(19, [(0, qe (.aload_n 0) 1 1), (1, qw (.iconst 0) 1 2 0), (2, qx (.putfield 15) 3 5 0 2 0), (5, qw (.iconst 0) 1 6 0), (6, qe (.istore_n 2) 1 7), (7, qe (.iload_n 2) 1 8), (8, qe (.aload_n 0) 1 9), (9, qx (.getfield 18) 3 12 0 0 2), (12, qx (.getfield 41) 3 15 10 13 0), (15, qx (.if_icmp .ge 54) 3 18 69 0 0), (18, qe (.aload_n 1) 1 19), (19, qx (.getfield 46) 3 22 7 6 2)]), (43, [(22, qe (.iload_n 2) 1 23), (23, qe (.baload) 1 24), (24, qx (.ifCond .eq 39) 3 27 63 0 0), (27, qe (.aload_n 0) 1 28), (28, qx (.getfield 18) 3 31 0 0 2), (31, qe (.aload_n 1) 1 32), (32, qe (.iload_n 2) 1 33), (33, qx (.invokevirtual 67) 3 36 109 3 10), (36, qx (.ifCond .eq 27) 3 39 63 0 0), (39, qe (.aload_n 1) 1 40), (40, qx (.getfield 46) 3 43 7 6 2), (43, qe (.iload_n 2) 1 44)]), (59, [(44, qw (.iconst 0) 1 45 0), (45, qe (.bastore) 1 46), (46, qe (.aload_n 1) 1 47), (47, qx (.getfield 71) 3 50 7 4 2), (50, qe (.iload_n 2) 1 51), (51, qw (.iconst (-1)) 1 52 (-1)), (52, qe (.iastore) 1 53), (53, qe (.aload_n 0) 1 54), (54, qe (.dup) 1 55), (55, qx (.getfield 15) 3 58 0 2 0), (58, qw (.iconst 1) 1 59 1), (59, qe (.iadd) 1 60)]), (69, [(60, qx (.putfield 15) 3 63 0 2 0), (63, qw (.iinc 2 1) 3 66 1), (66, qx (.goto (-59)) 3 69 7 0 0), (69, qe (.return_) 1 70)])]
noncomputable def mt_4 : pj_T := ((⟨"PegCoats$Course", "leaveAll", "(LPegCoats$State;)V"⟩, prog_2_method_4_code, 3, none), (0, false), mc_4)
set_option maxRecDepth 100000 in
/-- 5: PegCoats$Course.dressAll(LPegCoats$State;I)V -/
noncomputable def mc_5 : pj_M := [(19, [(0, qe (.aload_n 0) 1 1), (1, qw (.iconst 0) 1 2 0), (2, qx (.putfield 9) 3 5 0 1 0), (5, qe (.aload_n 1) 1 6), (6, qe (.aload_n 0) 1 7), (7, qx (.getfield 18) 3 10 0 0 2), (10, qx (.invokevirtual 74) 3 13 74 2 7), (13, qe (.istore_n 3) 1 14), (14, qw (.iconst 0) 1 15 0), (15, qe (.istore 4) 2 17), (17, qe (.iload 4) 2 19), (19, qe (.aload_n 0) 1 20)]), (45, [(20, qx (.getfield 18) 3 23 0 0 2), (23, qx (.getfield 41) 3 26 10 13 0), (26, qx (.if_icmp .ge 94) 3 29 120 0 0), (29, qe (.aload_n 1) 1 30), (30, qx (.getfield 46) 3 33 7 6 2), (33, qe (.iload 4) 2 35), (35, qe (.baload) 1 36), (36, qx (.ifCond .eq 78) 3 39 114 0 0), (39, qe (.aload_n 1) 1 40), (40, qx (.getfield 71) 3 43 7 4 2), (43, qe (.iload 4) 2 45), (45, qe (.iaload) 1 46)]), (67, [(46, qw (.iconst (-1)) 1 47 (-1)), (47, qx (.if_icmp .ne 67) 3 50 114 0 0), (50, qe (.iload 4) 2 52), (52, qe (.iload_n 2) 1 53), (53, qx (.if_icmp .ne 6) 3 56 59 0 0), (56, qx (.goto 58) 3 59 114 0 0), (59, qe (.aload_n 0) 1 60), (60, qe (.aload_n 1) 1 61), (61, qe (.aload_n 1) 1 62), (62, qx (.getfield 50) 3 65 7 2 2), (65, qe (.iload 4) 2 67), (67, qe (.iaload) 1 68)]), (88, [(68, qe (.aload_n 1) 1 69), (69, qx (.getfield 54) 3 72 7 3 2), (72, qe (.iload 4) 2 74), (74, qe (.iaload) 1 75), (75, qe (.iload_n 3) 1 76), (76, qx (.invokevirtual 78) 3 79 6 5 0), (79, qe (.istore 5) 2 81), (81, qe (.iload 5) 2 83), (83, qw (.iconst (-1)) 1 84 (-1)), (84, qx (.if_icmp .eq 30) 3 87 114 0 0), (87, qe (.aload_n 1) 1 88), (88, qe (.iload 4) 2 90)]), (105, [(90, qe (.iload 5) 2 92), (92, qx (.invokevirtual 82) 3 95 78 3 7), (95, qe (.iload_n 3) 1 96), (96, qw (.iconst 1) 1 97 1), (97, qe (.iload 5) 2 99), (99, qe (.ishl) 1 100), (100, qw (.iconst (-1)) 1 101 (-1)), (101, qe (.ixor) 1 102), (102, qe (.iand) 1 103), (103, qe (.istore_n 3) 1 104), (104, qe (.aload_n 0) 1 105), (105, qe (.dup) 1 106)]), (120, [(106, qx (.getfield 9) 3 109 0 1 0), (109, qw (.iconst 1) 1 110 1), (110, qe (.iadd) 1 111), (111, qx (.putfield 9) 3 114 0 1 0), (114, qw (.iinc 4 1) 3 117 1), (117, qx (.goto (-100)) 3 120 17 0 0), (120, qe (.return_) 1 121)])]
noncomputable def mt_5 : pj_T := ((⟨"PegCoats$Course", "dressAll", "(LPegCoats$State;I)V"⟩, prog_2_method_5_code, 6, none), (0, false), mc_5)
set_option maxRecDepth 100000 in
/-- 6: PegCoats$Course.warmest(LPegCoats$State;III)I -/
noncomputable def mc_6 : pj_M := [(21, [(0, qw (.iconst (-1)) 1 1 (-1)), (1, qe (.istore 5) 2 3), (3, qw (.iconst 0) 1 4 0), (4, qe (.istore 6) 2 6), (6, qw (.iconst 0) 1 7 0), (7, qe (.istore 7) 2 9), (9, qe (.iload 7) 2 11), (11, qe (.aload_n 0) 1 12), (12, qx (.getfield 18) 3 15 0 0 2), (15, qx (.getfield 92) 3 18 10 12 0), (18, qx (.if_icmp .ge 61) 3 21 79 0 0), (21, qe (.iload 4) 2 23)]), (41, [(23, qe (.iload 7) 2 25), (25, qe (.ishr) 1 26), (26, qw (.iconst 1) 1 27 1), (27, qe (.iand) 1 28), (28, qx (.ifCond .ne 6) 3 31 34 0 0), (31, qx (.goto 42) 3 34 73 0 0), (34, qe (.aload_n 0) 1 35), (35, qx (.getfield 18) 3 38 0 0 2), (38, qe (.iload_n 2) 1 39), (39, qe (.iload_n 3) 1 40), (40, qe (.aload_n 1) 1 41), (41, qx (.getfield 36) 3 44 7 7 0)]), (67, [(44, qe (.iload 7) 2 46), (46, qe (.aload_n 1) 1 47), (47, qx (.getfield 95) 3 50 7 0 2), (50, qe (.iload 7) 2 52), (52, qe (.iaload) 1 53), (53, qx (.invokevirtual 98) 3 56 105 6 10), (56, qe (.istore 8) 2 58), (58, qe (.iload 8) 2 60), (60, qe (.iload 6) 2 62), (62, qx (.if_icmp .le 11) 3 65 73 0 0), (65, qe (.iload 8) 2 67), (67, qe (.istore 6) 2 69)]), (81, [(69, qe (.iload 7) 2 71), (71, qe (.istore 5) 2 73), (73, qw (.iinc 7 1) 3 76 1), (76, qx (.goto (-67)) 3 79 9 0 0), (79, qe (.iload 5) 2 81), (81, qe (.ireturn) 1 82)])]
noncomputable def mt_6 : pj_T := ((⟨"PegCoats$Course", "warmest", "(LPegCoats$State;III)I"⟩, prog_2_method_7_code, 9, (some .int)), (0, false), mc_6)
set_option maxRecDepth 100000 in
/-- 7: PegCoats$Course.payAll(LPegCoats$State;)V -/
noncomputable def mc_7 : pj_M := [(19, [(0, qw (.iconst 0) 1 1 0), (1, qe (.istore_n 2) 1 2), (2, qe (.iload_n 2) 1 3), (3, qe (.aload_n 0) 1 4), (4, qx (.getfield 18) 3 7 0 0 2), (7, qx (.getfield 41) 3 10 10 13 0), (10, qx (.if_icmp .ge 49) 3 13 59 0 0), (13, qe (.aload_n 1) 1 14), (14, qx (.getfield 71) 3 17 7 4 2), (17, qe (.iload_n 2) 1 18), (18, qe (.iaload) 1 19), (19, qe (.istore_n 3) 1 20)]), (39, [(20, qe (.iload_n 3) 1 21), (21, qw (.iconst (-1)) 1 22 (-1)), (22, qx (.if_icmp .eq 31) 3 25 53 0 0), (25, qe (.aload_n 1) 1 26), (26, qx (.getfield 86) 3 29 7 5 2), (29, qe (.iload_n 2) 1 30), (30, qw (.sipush 9999) 3 33 9999), (33, qe (.aload_n 1) 1 34), (34, qx (.getfield 86) 3 37 7 5 2), (37, qe (.iload_n 2) 1 38), (38, qe (.iaload) 1 39), (39, qe (.aload_n 0) 1 40)]), (59, [(40, qx (.getfield 18) 3 43 0 0 2), (43, qx (.getfield 89) 3 46 10 2 2), (46, qe (.iload_n 3) 1 47), (47, qe (.iaload) 1 48), (48, qe (.iadd) 1 49), (49, qx (.invokestatic 61) 3 52 1001 2 0), (52, qe (.iastore) 1 53), (53, qw (.iinc 2 1) 3 56 1), (56, qx (.goto (-54)) 3 59 2 0 0), (59, qe (.return_) 1 60)])]
noncomputable def mt_7 : pj_T := ((⟨"PegCoats$Course", "payAll", "(LPegCoats$State;)V"⟩, prog_2_method_6_code, 4, none), (0, false), mc_7)
set_option maxRecDepth 100000 in
/-- 8: PegCoats$History.<init>()V -/
noncomputable def mc_8 : pj_M := [(20, [(0, qe (.aload_n 0) 1 1), (1, qx (.invokespecial 3) 3 4 1000 1 0), (4, qe (.aload_n 0) 1 5), (5, qw (.bipush 20) 2 7 20), (7, qe (.anewarray 9) 3 10), (10, qx (.putfield 11) 3 13 1 0 2), (13, qe (.aload_n 0) 1 14), (14, qw (.iconst 0) 1 15 0), (15, qx (.putfield 17) 3 18 1 1 0), (18, qe (.aload_n 0) 1 19), (19, qw (.iconst 0) 1 20 0), (20, qx (.putfield 21) 3 23 1 2 0)]), (43, [(23, qw (.iconst 0) 1 24 0), (24, qe (.istore_n 1) 1 25), (25, qe (.iload_n 1) 1 26), (26, qw (.bipush 20) 2 28 20), (28, qx (.if_icmp .ge 22) 3 31 50 0 0), (31, qe (.aload_n 0) 1 32), (32, qx (.getfield 11) 3 35 1 0 2), (35, qe (.iload_n 1) 1 36), (36, qx (.new 9) 3 39 7 9 0), (39, qe (.dup) 1 40), (40, qx (.invokespecial 24) 3 43 70 1 7), (43, qe (.aastore) 1 44)]), (50, [(44, qw (.iinc 1 1) 3 47 1), (47, qx (.goto (-22)) 3 50 25 0 0), (50, qe (.return_) 1 51)])]
noncomputable def mt_8 : pj_T := ((⟨"PegCoats$History", "<init>", "()V"⟩, prog_3_method_1_code, 2, none), (1, false), mc_8)
set_option maxRecDepth 100000 in
/-- 9: PegCoats$History.clear()V -/
noncomputable def mc_9 : pj_M := [(5, [(0, qe (.aload_n 0) 1 1), (1, qw (.iconst 0) 1 2 0), (2, qx (.putfield 17) 3 5 1 1 0), (5, qe (.return_) 1 6)])]
noncomputable def mt_9 : pj_T := ((⟨"PegCoats$History", "clear", "()V"⟩, prog_3_method_2_code, 1, none), (1, false), mc_9)
set_option maxRecDepth 100000 in
/-- 10: PegCoats$History.save(LPegCoats$State;)V -/
noncomputable def mc_10 : pj_M := [(19, [(0, qe (.aload_n 0) 1 1), (1, qx (.getfield 11) 3 4 1 0 2), (4, qe (.aload_n 0) 1 5), (5, qx (.getfield 21) 3 8 1 2 0), (8, qe (.aaload) 1 9), (9, qe (.aload_n 1) 1 10), (10, qx (.invokevirtual 25) 3 13 77 2 7), (13, qe (.aload_n 0) 1 14), (14, qe (.aload_n 0) 1 15), (15, qx (.getfield 21) 3 18 1 2 0), (18, qw (.iconst 1) 1 19 1), (19, qe (.iadd) 1 20)]), (41, [(20, qw (.bipush 20) 2 22 20), (22, qe (.irem) 1 23), (23, qx (.putfield 21) 3 26 1 2 0), (26, qe (.aload_n 0) 1 27), (27, qw (.bipush 20) 2 29 20), (29, qe (.aload_n 0) 1 30), (30, qx (.getfield 17) 3 33 1 1 0), (33, qw (.iconst 1) 1 34 1), (34, qe (.iadd) 1 35), (35, qx (.invokestatic 29) 3 38 1001 2 0), (38, qx (.putfield 17) 3 41 1 1 0), (41, qe (.return_) 1 42)])]
noncomputable def mt_10 : pj_T := ((⟨"PegCoats$History", "save", "(LPegCoats$State;)V"⟩, prog_3_method_3_code, 2, none), (1, false), mc_10)
set_option maxRecDepth 100000 in
/-- 11: PegCoats$History.takeBack(LPegCoats$State;)Z -/
noncomputable def mc_11 : pj_M := [(18, [(0, qe (.aload_n 0) 1 1), (1, qx (.getfield 17) 3 4 1 1 0), (4, qx (.ifCond .ne 5) 3 7 9 0 0), (7, qw (.iconst 0) 1 8 0), (8, qe (.ireturn) 1 9), (9, qe (.aload_n 0) 1 10), (10, qe (.aload_n 0) 1 11), (11, qx (.getfield 21) 3 14 1 2 0), (14, qw (.bipush 20) 2 16 20), (16, qe (.iadd) 1 17), (17, qw (.iconst 1) 1 18 1), (18, qe (.isub) 1 19)]), (37, [(19, qw (.bipush 20) 2 21 20), (21, qe (.irem) 1 22), (22, qx (.putfield 21) 3 25 1 2 0), (25, qe (.aload_n 0) 1 26), (26, qe (.dup) 1 27), (27, qx (.getfield 17) 3 30 1 1 0), (30, qw (.iconst 1) 1 31 1), (31, qe (.isub) 1 32), (32, qx (.putfield 17) 3 35 1 1 0), (35, qe (.aload_n 1) 1 36), (36, qe (.aload_n 0) 1 37), (37, qx (.getfield 11) 3 40 1 0 2)]), (49, [(40, qe (.aload_n 0) 1 41), (41, qx (.getfield 21) 3 44 1 2 0), (44, qe (.aaload) 1 45), (45, qx (.invokevirtual 25) 3 48 77 2 7), (48, qw (.iconst 1) 1 49 1), (49, qe (.ireturn) 1 50)])]
noncomputable def mt_11 : pj_T := ((⟨"PegCoats$History", "takeBack", "(LPegCoats$State;)Z"⟩, prog_3_method_4_code, 2, (some .boolean)), (1, true), mc_11)
set_option maxRecDepth 100000 in
/-- 12: PegCoats$Matching.<init>(LPegCoats$Works;)V -/
noncomputable def mc_12 : pj_M := [(26, [(0, qe (.aload_n 0) 1 1), (1, qx (.invokespecial 3) 3 4 1000 1 0), (4, qe (.aload_n 0) 1 5), (5, qw (.bipush 7) 2 7 7), (7, qw (.bipush 8) 2 9 8), (9, qe (.multianewarray 9 2) 4 13), (13, qx (.putfield 11) 3 16 2 1 2), (16, qe (.aload_n 0) 1 17), (17, qw (.bipush 8) 2 19 8), (19, qw (.sipush 256) 3 22 256), (22, qe (.multianewarray 9 2) 4 26), (26, qx (.putfield 16) 3 29 2 2 2)]), (34, [(29, qe (.aload_n 0) 1 30), (30, qe (.aload_n 1) 1 31), (31, qx (.putfield 19) 3 34 2 0 2), (34, qe (.return_) 1 35)])]
noncomputable def mt_12 : pj_T := ((⟨"PegCoats$Matching", "<init>", "(LPegCoats$Works;)V"⟩, prog_4_method_1_code, 2, none), (2, false), mc_12)
set_option maxRecDepth 100000 in
/-- 13: PegCoats$Matching.weigh(LPegCoats$State;)V -/
noncomputable def mc_13 : pj_M := [(17, [(0, qw (.iconst 0) 1 1 0), (1, qe (.istore_n 2) 1 2), (2, qe (.iload_n 2) 1 3), (3, qe (.aload_n 0) 1 4), (4, qx (.getfield 19) 3 7 2 0 2), (7, qx (.getfield 23) 3 10 10 13 0), (10, qx (.if_icmp .ge 101) 3 13 111 0 0), (13, qw (.iconst 0) 1 14 0), (14, qe (.istore_n 3) 1 15), (15, qe (.iload_n 3) 1 16), (16, qe (.aload_n 0) 1 17), (17, qx (.getfield 19) 3 20 2 0 2)]), (39, [(20, qx (.getfield 29) 3 23 10 12 0), (23, qx (.if_icmp .ge 82) 3 26 105 0 0), (26, qe (.aload_n 0) 1 27), (27, qx (.getfield 11) 3 30 2 1 2), (30, qe (.iload_n 2) 1 31), (31, qe (.aaload) 1 32), (32, qe (.iload_n 3) 1 33), (33, qw (.iconst 0) 1 34 0), (34, qe (.iastore) 1 35), (35, qe (.aload_n 1) 1 36), (36, qx (.getfield 32) 3 39 7 6 2), (39, qe (.iload_n 2) 1 40)]), (61, [(40, qe (.baload) 1 41), (41, qx (.ifCond .eq 58) 3 44 99 0 0), (44, qe (.aload_n 1) 1 45), (45, qx (.getfield 38) 3 48 7 1 2), (48, qe (.iload_n 3) 1 49), (49, qe (.baload) 1 50), (50, qx (.ifCond .ne 49) 3 53 99 0 0), (53, qe (.aload_n 0) 1 54), (54, qx (.getfield 19) 3 57 2 0 2), (57, qe (.aload_n 1) 1 58), (58, qx (.getfield 41) 3 61 7 2 2), (61, qe (.iload_n 2) 1 62)]), (79, [(62, qe (.iaload) 1 63), (63, qe (.aload_n 1) 1 64), (64, qx (.getfield 45) 3 67 7 3 2), (67, qe (.iload_n 2) 1 68), (68, qe (.iaload) 1 69), (69, qe (.aload_n 1) 1 70), (70, qx (.getfield 48) 3 73 7 7 0), (73, qe (.iload_n 3) 1 74), (74, qe (.aload_n 1) 1 75), (75, qx (.getfield 51) 3 78 7 0 2), (78, qe (.iload_n 3) 1 79), (79, qe (.iaload) 1 80)]), (99, [(80, qx (.invokevirtual 54) 3 83 105 6 10), (83, qe (.istore 4) 2 85), (85, qe (.aload_n 0) 1 86), (86, qx (.getfield 11) 3 89 2 1 2), (89, qe (.iload_n 2) 1 90), (90, qe (.aaload) 1 91), (91, qe (.iload_n 3) 1 92), (92, qw (.iconst 0) 1 93 0), (93, qe (.iload 4) 2 95), (95, qx (.invokestatic 58) 3 98 1002 2 0), (98, qe (.iastore) 1 99), (99, qw (.iinc 3 1) 3 102 1)]), (123, [(102, qx (.goto (-87)) 3 105 15 0 0), (105, qw (.iinc 2 1) 3 108 1), (108, qx (.goto (-106)) 3 111 2 0 0), (111, qw (.iconst 1) 1 112 1), (112, qe (.aload_n 0) 1 113), (113, qx (.getfield 19) 3 116 2 0 2), (116, qx (.getfield 29) 3 119 10 12 0), (119, qe (.ishl) 1 120), (120, qe (.istore_n 2) 1 121), (121, qw (.iconst 0) 1 122 0), (122, qe (.istore_n 3) 1 123), (123, qe (.iload_n 3) 1 124)]), (143, [(124, qe (.iload_n 2) 1 125), (125, qx (.if_icmp .ge 24) 3 128 149 0 0), (128, qe (.aload_n 0) 1 129), (129, qx (.getfield 16) 3 132 2 2 2), (132, qe (.aload_n 0) 1 133), (133, qx (.getfield 19) 3 136 2 0 2), (136, qx (.getfield 23) 3 139 10 13 0), (139, qe (.aaload) 1 140), (140, qe (.iload_n 3) 1 141), (141, qw (.iconst 0) 1 142 0), (142, qe (.iastore) 1 143), (143, qw (.iinc 3 1) 3 146 1)]), (166, [(146, qx (.goto (-23)) 3 149 123 0 0), (149, qe (.aload_n 0) 1 150), (150, qx (.getfield 19) 3 153 2 0 2), (153, qx (.getfield 23) 3 156 10 13 0), (156, qw (.iconst 1) 1 157 1), (157, qe (.isub) 1 158), (158, qe (.istore_n 3) 1 159), (159, qe (.iload_n 3) 1 160), (160, qx (.ifCond .lt 49) 3 163 209 0 0), (163, qw (.iconst 0) 1 164 0), (164, qe (.istore 4) 2 166), (166, qe (.iload 4) 2 168)]), (189, [(168, qe (.iload_n 2) 1 169), (169, qx (.if_icmp .ge 34) 3 172 203 0 0), (172, qe (.iload 4) 2 174), (174, qx (.invokestatic 64) 3 177 265 1 0), (177, qe (.iload_n 3) 1 178), (178, qx (.if_icmp .gt 19) 3 181 197 0 0), (181, qe (.aload_n 0) 1 182), (182, qx (.getfield 16) 3 185 2 2 2), (185, qe (.iload_n 3) 1 186), (186, qe (.aaload) 1 187), (187, qe (.iload 4) 2 189), (189, qe (.aload_n 0) 1 190)]), (209, [(190, qe (.iload_n 3) 1 191), (191, qe (.iload 4) 2 193), (193, qx (.invokevirtual 70) 3 196 14 3 2), (196, qe (.iastore) 1 197), (197, qw (.iinc 4 1) 3 200 1), (200, qx (.goto (-34)) 3 203 166 0 0), (203, qw (.iinc 3 (-1)) 3 206 (-1)), (206, qx (.goto (-47)) 3 209 159 0 0), (209, qe (.return_) 1 210)])]
noncomputable def mt_13 : pj_T := ((⟨"PegCoats$Matching", "weigh", "(LPegCoats$State;)V"⟩, prog_4_method_2_code, 5, none), (2, false), mc_13)
set_option maxRecDepth 100000 in
/-- 14: PegCoats$Matching.bestFrom(II)I -/
noncomputable def mc_14 : pj_M := [(14, [(0, qe (.aload_n 0) 1 1), (1, qx (.getfield 16) 3 4 2 2 2), (4, qe (.iload_n 1) 1 5), (5, qw (.iconst 1) 1 6 1), (6, qe (.iadd) 1 7), (7, qe (.aaload) 1 8), (8, qe (.iload_n 2) 1 9), (9, qe (.iaload) 1 10), (10, qe (.istore_n 3) 1 11), (11, qw (.iconst 0) 1 12 0), (12, qe (.istore 4) 2 14), (14, qe (.iload 4) 2 16)]), (38, [(16, qe (.aload_n 0) 1 17), (17, qx (.getfield 19) 3 20 2 0 2), (20, qx (.getfield 29) 3 23 10 12 0), (23, qx (.if_icmp .ge 50) 3 26 73 0 0), (26, qe (.aload_n 0) 1 27), (27, qe (.iload_n 1) 1 28), (28, qe (.iload 4) 2 30), (30, qe (.iload_n 2) 1 31), (31, qx (.invokevirtual 73) 3 34 15 4 2), (34, qx (.ifCond .eq 33) 3 37 67 0 0), (37, qe (.iload_n 3) 1 38), (38, qe (.aload_n 0) 1 39)]), (55, [(39, qx (.getfield 11) 3 42 2 1 2), (42, qe (.iload_n 1) 1 43), (43, qe (.aaload) 1 44), (44, qe (.iload 4) 2 46), (46, qe (.iaload) 1 47), (47, qe (.aload_n 0) 1 48), (48, qx (.getfield 16) 3 51 2 2 2), (51, qe (.iload_n 1) 1 52), (52, qw (.iconst 1) 1 53 1), (53, qe (.iadd) 1 54), (54, qe (.aaload) 1 55), (55, qe (.iload_n 2) 1 56)]), (74, [(56, qw (.iconst 1) 1 57 1), (57, qe (.iload 4) 2 59), (59, qe (.ishl) 1 60), (60, qe (.ior) 1 61), (61, qe (.iaload) 1 62), (62, qe (.iadd) 1 63), (63, qx (.invokestatic 58) 3 66 1002 2 0), (66, qe (.istore_n 3) 1 67), (67, qw (.iinc 4 1) 3 70 1), (70, qx (.goto (-56)) 3 73 14 0 0), (73, qe (.iload_n 3) 1 74), (74, qe (.ireturn) 1 75)])]
noncomputable def mt_14 : pj_T := ((⟨"PegCoats$Matching", "bestFrom", "(II)I"⟩, prog_4_method_3_code, 5, (some .int)), (2, false), mc_14)
set_option maxRecDepth 100000 in
/-- 15: PegCoats$Matching.canTake(III)Z -/
noncomputable def mc_15 : pj_M := [(15, [(0, qe (.aload_n 0) 1 1), (1, qx (.getfield 11) 3 4 2 1 2), (4, qe (.iload_n 1) 1 5), (5, qe (.aaload) 1 6), (6, qe (.iload_n 2) 1 7), (7, qe (.iaload) 1 8), (8, qx (.ifCond .le 15) 3 11 23 0 0), (11, qe (.iload_n 3) 1 12), (12, qe (.iload_n 2) 1 13), (13, qe (.ishr) 1 14), (14, qw (.iconst 1) 1 15 1), (15, qe (.iand) 1 16)]), (24, [(16, qx (.ifCond .ne 7) 3 19 23 0 0), (19, qw (.iconst 1) 1 20 1), (20, qx (.goto 4) 3 23 24 0 0), (23, qw (.iconst 0) 1 24 0), (24, qe (.ireturn) 1 25)])]
noncomputable def mt_15 : pj_T := ((⟨"PegCoats$Matching", "canTake", "(III)Z"⟩, prog_4_method_4_code, 4, (some .boolean)), (2, true), mc_15)
set_option maxRecDepth 100000 in
/-- 16: PegCoats$Matching.greatest()I -/
noncomputable def mc_16 : pj_M := [(8, [(0, qe (.aload_n 0) 1 1), (1, qx (.getfield 16) 3 4 2 2 2), (4, qw (.iconst 0) 1 5 0), (5, qe (.aaload) 1 6), (6, qw (.iconst 0) 1 7 0), (7, qe (.iaload) 1 8), (8, qe (.ireturn) 1 9)])]
noncomputable def mt_16 : pj_T := ((⟨"PegCoats$Matching", "greatest", "()I"⟩, prog_4_method_5_code, 1, (some .int)), (2, false), mc_16)
set_option maxRecDepth 100000 in
/-- 17: PegCoats$Matching.coatFor(I)I -/
noncomputable def mc_17 : pj_M := [(16, [(0, qw (.iconst 0) 1 1 0), (1, qe (.istore_n 2) 1 2), (2, qw (.iconst (-1)) 1 3 (-1)), (3, qe (.istore_n 3) 1 4), (4, qw (.iconst 0) 1 5 0), (5, qe (.istore 4) 2 7), (7, qe (.iload 4) 2 9), (9, qe (.iload_n 1) 1 10), (10, qx (.if_icmp .gt 28) 3 13 38 0 0), (13, qe (.aload_n 0) 1 14), (14, qe (.iload 4) 2 16), (16, qe (.iload_n 2) 1 17)]), (32, [(17, qx (.invokevirtual 77) 3 20 18 3 2), (20, qe (.istore_n 3) 1 21), (21, qe (.iload_n 3) 1 22), (22, qw (.iconst (-1)) 1 23 (-1)), (23, qx (.if_icmp .eq 9) 3 26 32 0 0), (26, qe (.iload_n 2) 1 27), (27, qw (.iconst 1) 1 28 1), (28, qe (.iload_n 3) 1 29), (29, qe (.ishl) 1 30), (30, qe (.ior) 1 31), (31, qe (.istore_n 2) 1 32), (32, qw (.iinc 4 1) 3 35 1)]), (39, [(35, qx (.goto (-28)) 3 38 7 0 0), (38, qe (.iload_n 3) 1 39), (39, qe (.ireturn) 1 40)])]
noncomputable def mt_17 : pj_T := ((⟨"PegCoats$Matching", "coatFor", "(I)I"⟩, prog_4_method_6_code, 5, (some .int)), (2, false), mc_17)
set_option maxRecDepth 100000 in
/-- 18: PegCoats$Matching.firstChoice(II)I -/
noncomputable def mc_18 : pj_M := [(15, [(0, qe (.aload_n 0) 1 1), (1, qx (.getfield 16) 3 4 2 2 2), (4, qe (.iload_n 1) 1 5), (5, qw (.iconst 1) 1 6 1), (6, qe (.iadd) 1 7), (7, qe (.aaload) 1 8), (8, qe (.iload_n 2) 1 9), (9, qe (.iaload) 1 10), (10, qe (.aload_n 0) 1 11), (11, qx (.getfield 16) 3 14 2 2 2), (14, qe (.iload_n 1) 1 15), (15, qe (.aaload) 1 16)]), (33, [(16, qe (.iload_n 2) 1 17), (17, qe (.iaload) 1 18), (18, qx (.if_icmp .ne 5) 3 21 23 0 0), (21, qw (.iconst (-1)) 1 22 (-1)), (22, qe (.ireturn) 1 23), (23, qw (.iconst 0) 1 24 0), (24, qe (.istore_n 3) 1 25), (25, qe (.iload_n 3) 1 26), (26, qe (.aload_n 0) 1 27), (27, qx (.getfield 19) 3 30 2 0 2), (30, qx (.getfield 29) 3 33 10 12 0), (33, qx (.if_icmp .ge 55) 3 36 88 0 0)]), (53, [(36, qe (.aload_n 0) 1 37), (37, qe (.iload_n 1) 1 38), (38, qe (.iload_n 3) 1 39), (39, qe (.iload_n 2) 1 40), (40, qx (.invokevirtual 73) 3 43 15 4 2), (43, qx (.ifCond .eq 39) 3 46 82 0 0), (46, qe (.aload_n 0) 1 47), (47, qx (.getfield 11) 3 50 2 1 2), (50, qe (.iload_n 1) 1 51), (51, qe (.aaload) 1 52), (52, qe (.iload_n 3) 1 53), (53, qe (.iaload) 1 54)]), (67, [(54, qe (.aload_n 0) 1 55), (55, qx (.getfield 16) 3 58 2 2 2), (58, qe (.iload_n 1) 1 59), (59, qw (.iconst 1) 1 60 1), (60, qe (.iadd) 1 61), (61, qe (.aaload) 1 62), (62, qe (.iload_n 2) 1 63), (63, qw (.iconst 1) 1 64 1), (64, qe (.iload_n 3) 1 65), (65, qe (.ishl) 1 66), (66, qe (.ior) 1 67), (67, qe (.iaload) 1 68)]), (85, [(68, qe (.iadd) 1 69), (69, qe (.aload_n 0) 1 70), (70, qx (.getfield 16) 3 73 2 2 2), (73, qe (.iload_n 1) 1 74), (74, qe (.aaload) 1 75), (75, qe (.iload_n 2) 1 76), (76, qe (.iaload) 1 77), (77, qx (.if_icmp .ne 5) 3 80 82 0 0), (80, qe (.iload_n 3) 1 81), (81, qe (.ireturn) 1 82), (82, qw (.iinc 3 1) 3 85 1), (85, qx (.goto (-60)) 3 88 25 0 0)]), (89, [(88, qw (.iconst (-1)) 1 89 (-1)), (89, qe (.ireturn) 1 90)])]
noncomputable def mt_18 : pj_T := ((⟨"PegCoats$Matching", "firstChoice", "(II)I"⟩, prog_4_method_7_code, 4, (some .int)), (2, false), mc_18)
set_option maxRecDepth 100000 in
/-- 19: PegCoats$Passing.<init>(LPegCoats$Works;)V -/
noncomputable def mc_19 : pj_M := [(23, [(0, qe (.aload_n 0) 1 1), (1, qx (.invokespecial 5) 3 4 1000 1 0), (4, qe (.aload_n 0) 1 5), (5, qx (.new 11) 3 8 7 9 0), (8, qe (.dup) 1 9), (9, qx (.invokespecial 13) 3 12 70 1 7), (12, qx (.putfield 14) 3 15 3 1 2), (15, qe (.aload_n 0) 1 16), (16, qw (.bipush 8) 2 18 8), (18, qx (.newarray .int) 2 20 13 0 0), (20, qx (.putfield 20) 3 23 3 2 2), (23, qe (.aload_n 0) 1 24)]), (44, [(24, qw (.sipush 224) 3 27 224), (27, qx (.newarray .int) 2 29 13 0 0), (29, qx (.putfield 24) 3 32 3 3 2), (32, qe (.aload_n 0) 1 33), (33, qw (.iconst 3) 1 34 3), (34, qx (.newarray .int) 2 36 13 0 0), (36, qx (.putfield 27) 3 39 3 4 2), (39, qe (.aload_n 0) 1 40), (40, qe (.aload_n 1) 1 41), (41, qx (.putfield 30) 3 44 3 0 2), (44, qe (.return_) 1 45)])]
noncomputable def mt_19 : pj_T := ((⟨"PegCoats$Passing", "<init>", "(LPegCoats$Works;)V"⟩, prog_5_method_1_code, 2, none), (3, false), mc_19)
set_option maxRecDepth 100000 in
/-- 20: PegCoats$Passing.fewest(LPegCoats$State;II)I -/
noncomputable def mc_20 : pj_M := [(21, [(0, qe (.aload_n 0) 1 1), (1, qx (.getfield 14) 3 4 3 1 2), (4, qe (.aload_n 1) 1 5), (5, qx (.invokevirtual 34) 3 8 77 2 7), (8, qe (.aload_n 0) 1 9), (9, qx (.getfield 14) 3 12 3 1 2), (12, qx (.getfield 38) 3 15 7 4 2), (15, qe (.iload_n 2) 1 16), (16, qe (.iaload) 1 17), (17, qe (.iload_n 3) 1 18), (18, qx (.if_icmp .ne 5) 3 21 23 0 0), (21, qw (.iconst 0) 1 22 0)]), (43, [(22, qe (.ireturn) 1 23), (23, qe (.aload_n 0) 1 24), (24, qx (.getfield 14) 3 27 3 1 2), (27, qe (.iload_n 3) 1 28), (28, qe (.aload_n 0) 1 29), (29, qx (.getfield 30) 3 32 3 0 2), (32, qx (.getfield 41) 3 35 10 13 0), (35, qx (.invokevirtual 47) 3 38 76 3 7), (38, qw (.iconst (-1)) 1 39 (-1)), (39, qx (.if_icmp .ne 5) 3 42 44 0 0), (42, qw (.iconst (-1)) 1 43 (-1)), (43, qe (.ireturn) 1 44)]), (65, [(44, qe (.aload_n 0) 1 45), (45, qx (.getfield 14) 3 48 3 1 2), (48, qx (.getfield 51) 3 51 7 0 2), (51, qw (.iconst 0) 1 52 0), (52, qe (.aload_n 0) 1 53), (53, qx (.getfield 20) 3 56 3 2 2), (56, qw (.iconst 0) 1 57 0), (57, qw (.bipush 8) 2 59 8), (59, qx (.invokestatic 54) 3 62 1004 5 0), (62, qw (.iconst 0) 1 63 0), (63, qe (.istore 4) 2 65), (65, qe (.iload 4) 2 67)]), (90, [(67, qe (.aload_n 0) 1 68), (68, qx (.getfield 24) 3 71 3 3 2), (71, qe (.arraylength) 1 72), (72, qx (.if_icmp .ge 18) 3 75 90 0 0), (75, qe (.aload_n 0) 1 76), (76, qx (.getfield 24) 3 79 3 3 2), (79, qe (.iload 4) 2 81), (81, qw (.ldc 60) 2 83 (-2147483648)), (83, qe (.iastore) 1 84), (84, qw (.iinc 4 1) 3 87 1), (87, qx (.goto (-22)) 3 90 65 0 0), (90, qw (.iconst 1) 1 91 1)]), (111, [(91, qe (.istore 4) 2 93), (93, qe (.iload 4) 2 95), (95, qw (.iconst 3) 1 96 3), (96, qx (.if_icmp .gt 24) 3 99 120 0 0), (99, qe (.aload_n 0) 1 100), (100, qe (.iload_n 2) 1 101), (101, qe (.iload_n 3) 1 102), (102, qw (.iconst 0) 1 103 0), (103, qe (.iload 4) 2 105), (105, qx (.invokevirtual 61) 3 108 21 5 3), (108, qx (.ifCond .eq 6) 3 111 114 0 0), (111, qe (.iload 4) 2 113)]), (121, [(113, qe (.ireturn) 1 114), (114, qw (.iinc 4 1) 3 117 1), (117, qx (.goto (-24)) 3 120 93 0 0), (120, qw (.iconst (-1)) 1 121 (-1)), (121, qe (.ireturn) 1 122)])]
noncomputable def mt_20 : pj_T := ((⟨"PegCoats$Passing", "fewest", "(LPegCoats$State;II)I"⟩, prog_5_method_2_code, 5, (some .int)), (3, false), mc_20)
set_option maxRecDepth 100000 in
/-- 21: PegCoats$Passing.reaches(IIII)Z -/
noncomputable def mc_21 : pj_M := [(17, [(0, qe (.iload_n 3) 1 1), (1, qe (.iload 4) 2 3), (3, qx (.if_icmp .ge 8) 3 6 11 0 0), (6, qe (.iload_n 3) 1 7), (7, qw (.iconst 3) 1 8 3), (8, qx (.if_icmp .lt 5) 3 11 13 0 0), (11, qw (.iconst 0) 1 12 0), (12, qe (.ireturn) 1 13), (13, qe (.iload_n 3) 1 14), (14, qe (.iload 4) 2 16), (16, qw (.iconst 1) 1 17 1), (17, qe (.isub) 1 18)]), (40, [(18, qx (.if_icmp .ne 7) 3 21 25 0 0), (21, qw (.iconst 1) 1 22 1), (22, qx (.goto 4) 3 25 26 0 0), (25, qw (.iconst 0) 1 26 0), (26, qe (.istore 5) 2 28), (28, qw (.iconst 0) 1 29 0), (29, qe (.istore 6) 2 31), (31, qe (.iload 6) 2 33), (33, qe (.aload_n 0) 1 34), (34, qx (.getfield 30) 3 37 3 0 2), (37, qx (.getfield 41) 3 40 10 13 0), (40, qx (.if_icmp .ge 105) 3 43 145 0 0)]), (66, [(43, qe (.iload 6) 2 45), (45, qw (.iconst 1) 1 46 1), (46, qe (.iadd) 1 47), (47, qe (.istore 7) 2 49), (49, qe (.iload 7) 2 51), (51, qe (.aload_n 0) 1 52), (52, qx (.getfield 30) 3 55 3 0 2), (55, qx (.getfield 41) 3 58 10 13 0), (58, qx (.if_icmp .ge 81) 3 61 139 0 0), (61, qe (.iload 5) 2 63), (63, qx (.ifCond .eq 19) 3 66 82 0 0), (66, qe (.aload_n 0) 1 67)]), (90, [(67, qe (.iload_n 1) 1 68), (68, qe (.iload_n 2) 1 69), (69, qe (.iload 6) 2 71), (71, qe (.iload 7) 2 73), (73, qx (.invokevirtual 65) 3 76 22 5 3), (76, qx (.ifCond .ne 6) 3 79 82 0 0), (79, qx (.goto 54) 3 82 133 0 0), (82, qe (.aload_n 0) 1 83), (83, qe (.iload 6) 2 85), (85, qe (.iload 7) 2 87), (87, qx (.invokevirtual 68) 3 90 23 3 3), (90, qx (.ifCond .ne 6) 3 93 96 0 0)]), (112, [(93, qx (.goto 40) 3 96 133 0 0), (96, qe (.aload_n 0) 1 97), (97, qx (.getfield 27) 3 100 3 4 2), (100, qe (.iload_n 3) 1 101), (101, qw (.bipush 8) 2 103 8), (103, qe (.iload 6) 2 105), (105, qe (.imul) 1 106), (106, qe (.iload 7) 2 108), (108, qe (.iadd) 1 109), (109, qe (.iastore) 1 110), (110, qe (.iload 5) 2 112), (112, qx (.ifCond .ne 19) 3 115 131 0 0)]), (133, [(115, qe (.aload_n 0) 1 116), (116, qe (.iload 6) 2 118), (118, qe (.iload 7) 2 120), (120, qe (.iload_n 1) 1 121), (121, qe (.iload_n 2) 1 122), (122, qe (.iload_n 3) 1 123), (123, qe (.iload 4) 2 125), (125, qx (.invokevirtual 72) 3 128 25 7 3), (128, qx (.ifCond .eq 5) 3 131 133 0 0), (131, qw (.iconst 1) 1 132 1), (132, qe (.ireturn) 1 133), (133, qw (.iinc 7 1) 3 136 1)]), (146, [(136, qx (.goto (-87)) 3 139 49 0 0), (139, qw (.iinc 6 1) 3 142 1), (142, qx (.goto (-111)) 3 145 31 0 0), (145, qw (.iconst 0) 1 146 0), (146, qe (.ireturn) 1 147)])]
noncomputable def mt_21 : pj_T := ((⟨"PegCoats$Passing", "reaches", "(IIII)Z"⟩, prog_5_method_3_code, 8, (some .boolean)), (3, true), mc_21)
set_option maxRecDepth 100000 in
/-- 22: PegCoats$Passing.brings(IIII)Z -/
noncomputable def mc_22 : pj_M := [(21, [(0, qe (.iload_n 3) 1 1), (1, qe (.iload_n 1) 1 2), (2, qx (.if_icmp .ne 17) 3 5 19 0 0), (5, qe (.aload_n 0) 1 6), (6, qx (.getfield 14) 3 9 3 1 2), (9, qx (.getfield 38) 3 12 7 4 2), (12, qe (.iload 4) 2 14), (14, qe (.iaload) 1 15), (15, qe (.iload_n 2) 1 16), (16, qx (.if_icmp .eq 22) 3 19 38 0 0), (19, qe (.iload 4) 2 21), (21, qe (.iload_n 1) 1 22)]), (43, [(22, qx (.if_icmp .ne 20) 3 25 42 0 0), (25, qe (.aload_n 0) 1 26), (26, qx (.getfield 14) 3 29 3 1 2), (29, qx (.getfield 38) 3 32 7 4 2), (32, qe (.iload_n 3) 1 33), (33, qe (.iaload) 1 34), (34, qe (.iload_n 2) 1 35), (35, qx (.if_icmp .ne 7) 3 38 42 0 0), (38, qw (.iconst 1) 1 39 1), (39, qx (.goto 4) 3 42 43 0 0), (42, qw (.iconst 0) 1 43 0), (43, qe (.ireturn) 1 44)])]
noncomputable def mt_22 : pj_T := ((⟨"PegCoats$Passing", "brings", "(IIII)Z"⟩, prog_5_method_7_code, 5, (some .boolean)), (3, true), mc_22)
set_option maxRecDepth 100000 in
/-- 23: PegCoats$Passing.nobodyColder(II)Z -/
noncomputable def mc_23 : pj_M := [(19, [(0, qe (.aload_n 0) 1 1), (1, qx (.getfield 14) 3 4 3 1 2), (4, qx (.getfield 38) 3 7 7 4 2), (7, qe (.iload_n 1) 1 8), (8, qe (.iaload) 1 9), (9, qe (.istore_n 3) 1 10), (10, qe (.aload_n 0) 1 11), (11, qx (.getfield 14) 3 14 3 1 2), (14, qx (.getfield 38) 3 17 7 4 2), (17, qe (.iload_n 2) 1 18), (18, qe (.iaload) 1 19), (19, qe (.istore 4) 2 21)]), (42, [(21, qe (.aload_n 0) 1 22), (22, qx (.getfield 14) 3 25 3 1 2), (25, qx (.getfield 88) 3 28 7 6 2), (28, qe (.iload_n 1) 1 29), (29, qe (.baload) 1 30), (30, qx (.ifCond .eq 26) 3 33 56 0 0), (33, qe (.aload_n 0) 1 34), (34, qx (.getfield 14) 3 37 3 1 2), (37, qx (.getfield 88) 3 40 7 6 2), (40, qe (.iload_n 2) 1 41), (41, qe (.baload) 1 42), (42, qx (.ifCond .eq 14) 3 45 56 0 0)]), (62, [(45, qe (.iload_n 3) 1 46), (46, qw (.iconst (-1)) 1 47 (-1)), (47, qx (.if_icmp .ne 11) 3 50 58 0 0), (50, qe (.iload 4) 2 52), (52, qw (.iconst (-1)) 1 53 (-1)), (53, qx (.if_icmp .ne 5) 3 56 58 0 0), (56, qw (.iconst 0) 1 57 0), (57, qe (.ireturn) 1 58), (58, qe (.aload_n 0) 1 59), (59, qe (.iload_n 1) 1 60), (60, qe (.iload 4) 2 62), (62, qw (.iconst 1) 1 63 1)]), (80, [(63, qx (.invokevirtual 92) 3 66 24 4 3), (66, qe (.aload_n 0) 1 67), (67, qe (.iload_n 1) 1 68), (68, qe (.iload_n 3) 1 69), (69, qw (.iconst 0) 1 70 0), (70, qx (.invokevirtual 92) 3 73 24 4 3), (73, qx (.if_icmp .lt 25) 3 76 98 0 0), (76, qe (.aload_n 0) 1 77), (77, qe (.iload_n 2) 1 78), (78, qe (.iload_n 3) 1 79), (79, qw (.iconst 1) 1 80 1), (80, qx (.invokevirtual 92) 3 83 24 4 3)]), (99, [(83, qe (.aload_n 0) 1 84), (84, qe (.iload_n 2) 1 85), (85, qe (.iload 4) 2 87), (87, qw (.iconst 0) 1 88 0), (88, qx (.invokevirtual 92) 3 91 24 4 3), (91, qx (.if_icmp .lt 7) 3 94 98 0 0), (94, qw (.iconst 1) 1 95 1), (95, qx (.goto 4) 3 98 99 0 0), (98, qw (.iconst 0) 1 99 0), (99, qe (.ireturn) 1 100)])]
noncomputable def mt_23 : pj_T := ((⟨"PegCoats$Passing", "nobodyColder", "(II)Z"⟩, prog_5_method_8_code, 5, (some .boolean)), (3, true), mc_23)
set_option maxRecDepth 100000 in
/-- 24: PegCoats$Passing.warmthOf(III)I -/
noncomputable def mc_24 : pj_M := [(18, [(0, qe (.iload_n 2) 1 1), (1, qw (.iconst (-1)) 1 2 (-1)), (2, qx (.if_icmp .ne 5) 3 5 7 0 0), (5, qw (.iconst 0) 1 6 0), (6, qe (.ireturn) 1 7), (7, qw (.bipush 99) 2 9 99), (9, qe (.aload_n 0) 1 10), (10, qx (.getfield 14) 3 13 3 1 2), (13, qx (.getfield 51) 3 16 7 0 2), (16, qe (.iload_n 2) 1 17), (17, qe (.iaload) 1 18), (18, qe (.iload_n 3) 1 19)]), (38, [(19, qe (.iadd) 1 20), (20, qx (.invokestatic 96) 3 23 1001 2 0), (23, qe (.istore 4) 2 25), (25, qe (.iload 4) 2 27), (27, qe (.aload_n 0) 1 28), (28, qx (.getfield 20) 3 31 3 2 2), (31, qe (.iload_n 2) 1 32), (32, qe (.iaload) 1 33), (33, qe (.isub) 1 34), (34, qe (.istore 5) 2 36), (36, qe (.iload 5) 2 38), (38, qx (.ifCond .lt 9) 3 41 47 0 0)]), (61, [(41, qe (.iload 5) 2 43), (43, qw (.iconst 4) 1 44 4), (44, qx (.if_icmp .lt 39) 3 47 83 0 0), (47, qe (.aload_n 0) 1 48), (48, qx (.getfield 30) 3 51 3 0 2), (51, qe (.aload_n 0) 1 52), (52, qx (.getfield 14) 3 55 3 1 2), (55, qx (.getfield 101) 3 58 7 2 2), (58, qe (.iload_n 1) 1 59), (59, qe (.iaload) 1 60), (60, qe (.aload_n 0) 1 61), (61, qx (.getfield 14) 3 64 3 1 2)]), (84, [(64, qx (.getfield 104) 3 67 7 3 2), (67, qe (.iload_n 1) 1 68), (68, qe (.iaload) 1 69), (69, qe (.aload_n 0) 1 70), (70, qx (.getfield 14) 3 73 3 1 2), (73, qx (.getfield 107) 3 76 7 7 0), (76, qe (.iload_n 2) 1 77), (77, qe (.iload 4) 2 79), (79, qx (.invokevirtual 110) 3 82 105 6 10), (82, qe (.ireturn) 1 83), (83, qe (.iload_n 1) 1 84), (84, qw (.bipush 8) 2 86 8)]), (102, [(86, qe (.imul) 1 87), (87, qe (.iload_n 2) 1 88), (88, qe (.iadd) 1 89), (89, qw (.iconst 4) 1 90 4), (90, qe (.imul) 1 91), (91, qe (.iload 5) 2 93), (93, qe (.iadd) 1 94), (94, qe (.istore 6) 2 96), (96, qe (.aload_n 0) 1 97), (97, qx (.getfield 24) 3 100 3 3 2), (100, qe (.iload 6) 2 102), (102, qe (.iaload) 1 103)]), (126, [(103, qw (.ldc 60) 2 105 (-2147483648)), (105, qx (.if_icmp .ne 45) 3 108 150 0 0), (108, qe (.aload_n 0) 1 109), (109, qx (.getfield 24) 3 112 3 3 2), (112, qe (.iload 6) 2 114), (114, qe (.aload_n 0) 1 115), (115, qx (.getfield 30) 3 118 3 0 2), (118, qe (.aload_n 0) 1 119), (119, qx (.getfield 14) 3 122 3 1 2), (122, qx (.getfield 101) 3 125 7 2 2), (125, qe (.iload_n 1) 1 126), (126, qe (.iaload) 1 127)]), (149, [(127, qe (.aload_n 0) 1 128), (128, qx (.getfield 14) 3 131 3 1 2), (131, qx (.getfield 104) 3 134 7 3 2), (134, qe (.iload_n 1) 1 135), (135, qe (.iaload) 1 136), (136, qe (.aload_n 0) 1 137), (137, qx (.getfield 14) 3 140 3 1 2), (140, qx (.getfield 107) 3 143 7 7 0), (143, qe (.iload_n 2) 1 144), (144, qe (.iload 4) 2 146), (146, qx (.invokevirtual 110) 3 149 105 6 10), (149, qe (.iastore) 1 150)]), (157, [(150, qe (.aload_n 0) 1 151), (151, qx (.getfield 24) 3 154 3 3 2), (154, qe (.iload 6) 2 156), (156, qe (.iaload) 1 157), (157, qe (.ireturn) 1 158)])]
noncomputable def mt_24 : pj_T := ((⟨"PegCoats$Passing", "warmthOf", "(III)I"⟩, prog_5_method_9_code, 7, (some .int)), (3, false), mc_24)
end
section
set_option maxRecDepth 100000 in
/-- 25: PegCoats$Passing.reachesBehind(IIIIII)Z -/
noncomputable def mc_25 : pj_M := [(20, [(0, qe (.aload_n 0) 1 1), (1, qx (.getfield 14) 3 4 3 1 2), (4, qx (.getfield 38) 3 7 7 4 2), (7, qe (.iload_n 1) 1 8), (8, qe (.iaload) 1 9), (9, qe (.istore 7) 2 11), (11, qe (.aload_n 0) 1 12), (12, qx (.getfield 14) 3 15 3 1 2), (15, qx (.getfield 38) 3 18 7 4 2), (18, qe (.iload_n 2) 1 19), (19, qe (.iaload) 1 20), (20, qe (.istore 8) 2 22)]), (43, [(22, qe (.aload_n 0) 1 23), (23, qe (.iload 7) 2 25), (25, qx (.invokevirtual 76) 3 28 26 2 3), (28, qe (.istore 9) 2 30), (30, qe (.aload_n 0) 1 31), (31, qe (.iload 8) 2 33), (33, qx (.invokevirtual 76) 3 36 26 2 3), (36, qe (.istore 10) 2 38), (38, qe (.aload_n 0) 1 39), (39, qx (.getfield 14) 3 42 3 1 2), (42, qe (.iload_n 1) 1 43), (43, qe (.iload_n 2) 1 44)]), (63, [(44, qx (.invokevirtual 80) 3 47 79 3 7), (47, qe (.aload_n 0) 1 48), (48, qe (.iload_n 3) 1 49), (49, qe (.iload 4) 2 51), (51, qe (.iload 5) 2 53), (53, qw (.iconst 1) 1 54 1), (54, qe (.iadd) 1 55), (55, qe (.iload 6) 2 57), (57, qx (.invokevirtual 61) 3 60 21 5 3), (60, qe (.istore 11) 2 62), (62, qe (.aload_n 0) 1 63), (63, qe (.iload_n 1) 1 64)]), (82, [(64, qe (.iload 7) 2 66), (66, qe (.iload 9) 2 68), (68, qx (.invokevirtual 84) 3 71 27 4 3), (71, qe (.aload_n 0) 1 72), (72, qe (.iload_n 2) 1 73), (73, qe (.iload 8) 2 75), (75, qe (.iload 10) 2 77), (77, qx (.invokevirtual 84) 3 80 27 4 3), (80, qe (.iload 11) 2 82), (82, qe (.ireturn) 1 83)])]
noncomputable def mt_25 : pj_T := ((⟨"PegCoats$Passing", "reachesBehind", "(IIIIII)Z"⟩, prog_5_method_4_code, 12, (some .boolean)), (3, true), mc_25)
set_option maxRecDepth 100000 in
/-- 26: PegCoats$Passing.liningOf(I)I -/
noncomputable def mc_26 : pj_M := [(18, [(0, qe (.iload_n 1) 1 1), (1, qw (.iconst (-1)) 1 2 (-1)), (2, qx (.if_icmp .ne 7) 3 5 9 0 0), (5, qw (.iconst 0) 1 6 0), (6, qx (.goto 12) 3 9 18 0 0), (9, qe (.aload_n 0) 1 10), (10, qx (.getfield 14) 3 13 3 1 2), (13, qx (.getfield 51) 3 16 7 0 2), (16, qe (.iload_n 1) 1 17), (17, qe (.iaload) 1 18), (18, qe (.ireturn) 1 19)])]
noncomputable def mt_26 : pj_T := ((⟨"PegCoats$Passing", "liningOf", "(I)I"⟩, prog_5_method_5_code, 2, (some .int)), (3, false), mc_26)
set_option maxRecDepth 100000 in
/-- 27: PegCoats$Passing.putBack(III)V -/
noncomputable def mc_27 : pj_M := [(19, [(0, qe (.aload_n 0) 1 1), (1, qx (.getfield 14) 3 4 3 1 2), (4, qx (.getfield 38) 3 7 7 4 2), (7, qe (.iload_n 1) 1 8), (8, qe (.iload_n 2) 1 9), (9, qe (.iastore) 1 10), (10, qe (.iload_n 2) 1 11), (11, qw (.iconst (-1)) 1 12 (-1)), (12, qx (.if_icmp .eq 13) 3 15 25 0 0), (15, qe (.aload_n 0) 1 16), (16, qx (.getfield 14) 3 19 3 1 2), (19, qx (.getfield 51) 3 22 7 0 2)]), (25, [(22, qe (.iload_n 2) 1 23), (23, qe (.iload_n 3) 1 24), (24, qe (.iastore) 1 25), (25, qe (.return_) 1 26)])]
noncomputable def mt_27 : pj_T := ((⟨"PegCoats$Passing", "putBack", "(III)V"⟩, prog_5_method_6_code, 4, none), (3, false), mc_27)
set_option maxRecDepth 100000 in
/-- 28: PegCoats$Picture.<init>(LPegCoats$Works;)V -/
noncomputable def mc_28 : pj_M := [(19, [(0, qe (.aload_n 0) 1 1), (1, qx (.invokespecial 3) 3 4 1000 1 0), (4, qe (.aload_n 0) 1 5), (5, qw (.bipush 61) 2 7 61), (7, qx (.newarray .int) 2 9 13 0 0), (9, qx (.putfield 11) 3 12 4 1 2), (12, qe (.aload_n 0) 1 13), (13, qw (.iconst 0) 1 14 0), (14, qx (.putfield 15) 3 17 4 2 0), (17, qe (.aload_n 0) 1 18), (18, qe (.aload_n 1) 1 19), (19, qx (.putfield 19) 3 22 4 0 2)]), (22, [(22, qe (.return_) 1 23)])]
noncomputable def mt_28 : pj_T := ((⟨"PegCoats$Picture", "<init>", "(LPegCoats$Works;)V"⟩, prog_6_method_1_code, 2, none), (4, false), mc_28)
set_option maxRecDepth 100000 in
/-- 29: PegCoats$Picture.draw(LPegCoats$State;)V -/
noncomputable def mc_29 : pj_M := [(18, [(0, qe (.aload_n 0) 1 1), (1, qw (.iconst 0) 1 2 0), (2, qx (.putfield 15) 3 5 4 2 0), (5, qe (.aload_n 0) 1 6), (6, qe (.aload_n 1) 1 7), (7, qx (.getfield 23) 3 10 7 7 0), (10, qw (.bipush 8) 2 12 8), (12, qe (.ishr) 1 13), (13, qx (.invokevirtual 28) 3 16 30 2 4), (16, qe (.aload_n 0) 1 17), (17, qe (.aload_n 1) 1 18), (18, qx (.getfield 23) 3 21 7 7 0)]), (42, [(21, qw (.sipush 255) 3 24 255), (24, qe (.iand) 1 25), (25, qx (.invokevirtual 28) 3 28 30 2 4), (28, qw (.iconst 0) 1 29 0), (29, qe (.istore_n 2) 1 30), (30, qe (.iload_n 2) 1 31), (31, qe (.aload_n 0) 1 32), (32, qx (.getfield 19) 3 35 4 0 2), (35, qx (.getfield 32) 3 38 10 12 0), (38, qx (.if_icmp .ge 37) 3 41 75 0 0), (41, qe (.aload_n 0) 1 42), (42, qe (.aload_n 1) 1 43)]), (64, [(43, qx (.getfield 37) 3 46 7 1 2), (46, qe (.iload_n 2) 1 47), (47, qe (.baload) 1 48), (48, qx (.ifCond .eq 7) 3 51 55 0 0), (51, qw (.iconst 1) 1 52 1), (52, qx (.goto 4) 3 55 56 0 0), (55, qw (.iconst 0) 1 56 0), (56, qx (.invokevirtual 28) 3 59 30 2 4), (59, qe (.aload_n 0) 1 60), (60, qe (.aload_n 1) 1 61), (61, qx (.getfield 41) 3 64 7 0 2), (64, qe (.iload_n 2) 1 65)]), (88, [(65, qe (.iaload) 1 66), (66, qx (.invokevirtual 28) 3 69 30 2 4), (69, qw (.iinc 2 1) 3 72 1), (72, qx (.goto (-42)) 3 75 30 0 0), (75, qw (.iconst 0) 1 76 0), (76, qe (.istore_n 2) 1 77), (77, qe (.iload_n 2) 1 78), (78, qe (.aload_n 0) 1 79), (79, qx (.getfield 19) 3 82 4 0 2), (82, qx (.getfield 44) 3 85 10 13 0), (85, qx (.if_icmp .ge 100) 3 88 185 0 0), (88, qe (.aload_n 0) 1 89)]), (108, [(89, qe (.aload_n 1) 1 90), (90, qx (.getfield 47) 3 93 7 2 2), (93, qe (.iload_n 2) 1 94), (94, qe (.iaload) 1 95), (95, qx (.invokevirtual 28) 3 98 30 2 4), (98, qe (.aload_n 0) 1 99), (99, qe (.aload_n 1) 1 100), (100, qx (.getfield 50) 3 103 7 3 2), (103, qe (.iload_n 2) 1 104), (104, qe (.iaload) 1 105), (105, qx (.invokevirtual 28) 3 108 30 2 4), (108, qe (.aload_n 0) 1 109)]), (130, [(109, qe (.aload_n 1) 1 110), (110, qx (.getfield 53) 3 113 7 4 2), (113, qe (.iload_n 2) 1 114), (114, qe (.iaload) 1 115), (115, qw (.iconst (-1)) 1 116 (-1)), (116, qx (.if_icmp .ne 9) 3 119 125 0 0), (119, qw (.sipush 255) 3 122 255), (122, qx (.goto 9) 3 125 131 0 0), (125, qe (.aload_n 1) 1 126), (126, qx (.getfield 53) 3 129 7 4 2), (129, qe (.iload_n 2) 1 130), (130, qe (.iaload) 1 131)]), (149, [(131, qx (.invokevirtual 28) 3 134 30 2 4), (134, qe (.aload_n 0) 1 135), (135, qe (.aload_n 1) 1 136), (136, qx (.getfield 56) 3 139 7 5 2), (139, qe (.iload_n 2) 1 140), (140, qe (.iaload) 1 141), (141, qw (.bipush 8) 2 143 8), (143, qe (.ishr) 1 144), (144, qx (.invokevirtual 28) 3 147 30 2 4), (147, qe (.aload_n 0) 1 148), (148, qe (.aload_n 1) 1 149), (149, qx (.getfield 56) 3 152 7 5 2)]), (171, [(152, qe (.iload_n 2) 1 153), (153, qe (.iaload) 1 154), (154, qw (.sipush 255) 3 157 255), (157, qe (.iand) 1 158), (158, qx (.invokevirtual 28) 3 161 30 2 4), (161, qe (.aload_n 0) 1 162), (162, qe (.aload_n 1) 1 163), (163, qx (.getfield 59) 3 166 7 6 2), (166, qe (.iload_n 2) 1 167), (167, qe (.baload) 1 168), (168, qx (.ifCond .eq 7) 3 171 175 0 0), (171, qw (.iconst 1) 1 172 1)]), (193, [(172, qx (.goto 4) 3 175 176 0 0), (175, qw (.iconst 0) 1 176 0), (176, qx (.invokevirtual 28) 3 179 30 2 4), (179, qw (.iinc 2 1) 3 182 1), (182, qx (.goto (-105)) 3 185 77 0 0), (185, qw (.sipush 233) 3 188 233), (188, qe (.istore_n 2) 1 189), (189, qw (.iconst 0) 1 190 0), (190, qe (.istore_n 3) 1 191), (191, qe (.iload_n 3) 1 192), (192, qe (.aload_n 0) 1 193), (193, qx (.getfield 15) 3 196 4 2 0)]), (213, [(196, qx (.if_icmp .ge 24) 3 199 220 0 0), (199, qw (.iconst 5) 1 200 5), (200, qe (.iload_n 2) 1 201), (201, qe (.imul) 1 202), (202, qe (.aload_n 0) 1 203), (203, qx (.getfield 11) 3 206 4 1 2), (206, qe (.iload_n 3) 1 207), (207, qe (.iaload) 1 208), (208, qe (.iadd) 1 209), (209, qw (.sipush 251) 3 212 251), (212, qe (.irem) 1 213), (213, qe (.istore_n 2) 1 214)]), (225, [(214, qw (.iinc 3 1) 3 217 1), (217, qx (.goto (-26)) 3 220 191 0 0), (220, qe (.aload_n 0) 1 221), (221, qe (.iload_n 2) 1 222), (222, qx (.invokevirtual 28) 3 225 30 2 4), (225, qe (.return_) 1 226)])]
noncomputable def mt_29 : pj_T := ((⟨"PegCoats$Picture", "draw", "(LPegCoats$State;)V"⟩, prog_6_method_2_code, 4, none), (4, false), mc_29)
set_option maxRecDepth 100000 in
/-- 30: PegCoats$Picture.write(I)V -/
noncomputable def mc_30 : pj_M := [(21, [(0, qe (.aload_n 0) 1 1), (1, qx (.getfield 15) 3 4 4 2 0), (4, qe (.aload_n 0) 1 5), (5, qx (.getfield 11) 3 8 4 1 2), (8, qe (.arraylength) 1 9), (9, qx (.if_icmp .ge 23) 3 12 32 0 0), (12, qe (.aload_n 0) 1 13), (13, qx (.getfield 11) 3 16 4 1 2), (16, qe (.aload_n 0) 1 17), (17, qx (.getfield 15) 3 20 4 2 0), (20, qe (.iload_n 1) 1 21), (21, qe (.iastore) 1 22)]), (32, [(22, qe (.aload_n 0) 1 23), (23, qe (.dup) 1 24), (24, qx (.getfield 15) 3 27 4 2 0), (27, qw (.iconst 1) 1 28 1), (28, qe (.iadd) 1 29), (29, qx (.putfield 15) 3 32 4 2 0), (32, qe (.return_) 1 33)])]
noncomputable def mt_30 : pj_T := ((⟨"PegCoats$Picture", "write", "(I)V"⟩, prog_6_method_3_code, 2, none), (4, false), mc_30)
set_option maxRecDepth 100000 in
/-- 31: PegCoats$Picture.readInto(LPegCoats$State;LPegCoats$Tape;)Z -/
noncomputable def mc_31 : pj_M := [(17, [(0, qw (.iconst 2) 1 1 2), (1, qw (.iconst 2) 1 2 2), (2, qe (.aload_n 0) 1 3), (3, qx (.getfield 19) 3 6 4 0 2), (6, qx (.getfield 32) 3 9 10 12 0), (9, qe (.imul) 1 10), (10, qe (.iadd) 1 11), (11, qe (.istore_n 3) 1 12), (12, qe (.aload_n 2) 1 13), (13, qx (.getfield 62) 3 16 8 1 0), (16, qe (.iload_n 3) 1 17), (17, qw (.bipush 6) 2 19 6)]), (40, [(19, qe (.aload_n 0) 1 20), (20, qx (.getfield 19) 3 23 4 0 2), (23, qx (.getfield 44) 3 26 10 13 0), (26, qe (.imul) 1 27), (27, qe (.iadd) 1 28), (28, qw (.iconst 1) 1 29 1), (29, qe (.iadd) 1 30), (30, qx (.if_icmp .ne 10) 3 33 40 0 0), (33, qe (.aload_n 2) 1 34), (34, qx (.invokestatic 65) 3 37 32 1 0), (37, qx (.ifCond .ne 5) 3 40 42 0 0), (40, qw (.iconst 0) 1 41 0)]), (57, [(41, qe (.ireturn) 1 42), (42, qe (.aload_n 1) 1 43), (43, qw (.iconst 0) 1 44 0), (44, qx (.putfield 69) 3 47 7 8 0), (47, qe (.aload_n 1) 1 48), (48, qe (.aload_n 2) 1 49), (49, qw (.iconst 0) 1 50 0), (50, qx (.invokevirtual 72) 3 53 85 2 8), (53, qw (.bipush 8) 2 55 8), (55, qe (.ishl) 1 56), (56, qe (.aload_n 2) 1 57), (57, qw (.iconst 1) 1 58 1)]), (80, [(58, qx (.invokevirtual 72) 3 61 85 2 8), (61, qe (.ior) 1 62), (62, qx (.putfield 23) 3 65 7 7 0), (65, qe (.aload_n 1) 1 66), (66, qx (.getfield 23) 3 69 7 7 0), (69, qw (.sipush 999) 3 72 999), (72, qx (.if_icmp .le 5) 3 75 77 0 0), (75, qw (.iconst 0) 1 76 0), (76, qe (.ireturn) 1 77), (77, qw (.iconst 0) 1 78 0), (78, qe (.istore 4) 2 80), (80, qe (.iload 4) 2 82)]), (101, [(82, qe (.aload_n 0) 1 83), (83, qx (.getfield 19) 3 86 4 0 2), (86, qx (.getfield 32) 3 89 10 12 0), (89, qx (.if_icmp .ge 27) 3 92 116 0 0), (92, qe (.aload_n 1) 1 93), (93, qe (.aload_n 2) 1 94), (94, qe (.iload 4) 2 96), (96, qw (.iconst 2) 1 97 2), (97, qw (.iconst 2) 1 98 2), (98, qe (.iload 4) 2 100), (100, qe (.imul) 1 101), (101, qe (.iadd) 1 102)]), (124, [(102, qx (.invokestatic 76) 3 105 33 4 0), (105, qx (.ifCond .ne 5) 3 108 110 0 0), (108, qw (.iconst 0) 1 109 0), (109, qe (.ireturn) 1 110), (110, qw (.iinc 4 1) 3 113 1), (113, qx (.goto (-33)) 3 116 80 0 0), (116, qw (.iconst 0) 1 117 0), (117, qe (.istore 4) 2 119), (119, qw (.iconst 0) 1 120 0), (120, qe (.istore 5) 2 122), (122, qe (.iload 5) 2 124), (124, qe (.aload_n 0) 1 125)]), (145, [(125, qx (.getfield 19) 3 128 4 0 2), (128, qx (.getfield 44) 3 131 10 13 0), (131, qx (.if_icmp .ge 72) 3 134 203 0 0), (134, qe (.aload_n 0) 1 135), (135, qe (.aload_n 1) 1 136), (136, qe (.aload_n 2) 1 137), (137, qe (.iload 5) 2 139), (139, qe (.iload_n 3) 1 140), (140, qw (.bipush 6) 2 142 6), (142, qe (.iload 5) 2 144), (144, qe (.imul) 1 145), (145, qe (.iadd) 1 146)]), (166, [(146, qx (.invokevirtual 80) 3 149 34 5 4), (149, qx (.ifCond .ne 5) 3 152 154 0 0), (152, qw (.iconst 0) 1 153 0), (153, qe (.ireturn) 1 154), (154, qe (.aload_n 1) 1 155), (155, qx (.getfield 53) 3 158 7 4 2), (158, qe (.iload 5) 2 160), (160, qe (.iaload) 1 161), (161, qw (.iconst (-1)) 1 162 (-1)), (162, qx (.if_icmp .ne 7) 3 165 169 0 0), (165, qw (.iconst 0) 1 166 0), (166, qx (.goto 12) 3 169 178 0 0)]), (188, [(169, qw (.iconst 1) 1 170 1), (170, qe (.aload_n 1) 1 171), (171, qx (.getfield 53) 3 174 7 4 2), (174, qe (.iload 5) 2 176), (176, qe (.iaload) 1 177), (177, qe (.ishl) 1 178), (178, qe (.istore 6) 2 180), (180, qe (.iload 4) 2 182), (182, qe (.iload 6) 2 184), (184, qe (.iand) 1 185), (185, qx (.ifCond .eq 5) 3 188 190 0 0), (188, qw (.iconst 0) 1 189 0)]), (204, [(189, qe (.ireturn) 1 190), (190, qe (.iload 4) 2 192), (192, qe (.iload 6) 2 194), (194, qe (.ior) 1 195), (195, qe (.istore 4) 2 197), (197, qw (.iinc 5 1) 3 200 1), (200, qx (.goto (-78)) 3 203 122 0 0), (203, qw (.iconst 1) 1 204 1), (204, qe (.ireturn) 1 205)])]
noncomputable def mt_31 : pj_T := ((⟨"PegCoats$Picture", "readInto", "(LPegCoats$State;LPegCoats$Tape;)Z"⟩, prog_6_method_4_code, 7, (some .boolean)), (4, true), mc_31)
set_option maxRecDepth 100000 in
/-- 32: PegCoats$Picture.hasCheck(LPegCoats$Tape;)Z -/
noncomputable def mc_32 : pj_M := [(17, [(0, qw (.sipush 233) 3 3 233), (3, qe (.istore_n 1) 1 4), (4, qw (.iconst 0) 1 5 0), (5, qe (.istore_n 2) 1 6), (6, qe (.iload_n 2) 1 7), (7, qe (.aload_n 0) 1 8), (8, qx (.getfield 62) 3 11 8 1 0), (11, qw (.iconst 1) 1 12 1), (12, qe (.isub) 1 13), (13, qx (.if_icmp .ge 23) 3 16 36 0 0), (16, qw (.iconst 5) 1 17 5), (17, qe (.iload_n 1) 1 18)]), (37, [(18, qe (.imul) 1 19), (19, qe (.aload_n 0) 1 20), (20, qe (.iload_n 2) 1 21), (21, qx (.invokevirtual 72) 3 24 85 2 8), (24, qe (.iadd) 1 25), (25, qw (.sipush 251) 3 28 251), (28, qe (.irem) 1 29), (29, qe (.istore_n 1) 1 30), (30, qw (.iinc 2 1) 3 33 1), (33, qx (.goto (-27)) 3 36 6 0 0), (36, qe (.aload_n 0) 1 37), (37, qe (.aload_n 0) 1 38)]), (55, [(38, qx (.getfield 62) 3 41 8 1 0), (41, qw (.iconst 1) 1 42 1), (42, qe (.isub) 1 43), (43, qx (.invokevirtual 72) 3 46 85 2 8), (46, qe (.iload_n 1) 1 47), (47, qx (.if_icmp .ne 7) 3 50 54 0 0), (50, qw (.iconst 1) 1 51 1), (51, qx (.goto 4) 3 54 55 0 0), (54, qw (.iconst 0) 1 55 0), (55, qe (.ireturn) 1 56)])]
noncomputable def mt_32 : pj_T := ((⟨"PegCoats$Picture", "hasCheck", "(LPegCoats$Tape;)Z"⟩, prog_6_method_5_code, 3, (some .boolean)), (4, true), mc_32)
set_option maxRecDepth 100000 in
/-- 33: PegCoats$Picture.readsCoat(LPegCoats$State;LPegCoats$Tape;II)Z -/
noncomputable def mc_33 : pj_M := [(19, [(0, qe (.aload_n 0) 1 1), (1, qx (.getfield 37) 3 4 7 1 2), (4, qe (.iload_n 2) 1 5), (5, qe (.aload_n 1) 1 6), (6, qe (.iload_n 3) 1 7), (7, qx (.invokevirtual 72) 3 10 85 2 8), (10, qw (.iconst 1) 1 11 1), (11, qx (.if_icmp .ne 7) 3 14 18 0 0), (14, qw (.iconst 1) 1 15 1), (15, qx (.goto 4) 3 18 19 0 0), (18, qw (.iconst 0) 1 19 0), (19, qe (.bastore) 1 20)]), (35, [(20, qe (.aload_n 0) 1 21), (21, qx (.getfield 41) 3 24 7 0 2), (24, qe (.iload_n 2) 1 25), (25, qe (.aload_n 1) 1 26), (26, qe (.iload_n 3) 1 27), (27, qw (.iconst 1) 1 28 1), (28, qe (.iadd) 1 29), (29, qx (.invokevirtual 72) 3 32 85 2 8), (32, qe (.iastore) 1 33), (33, qe (.aload_n 1) 1 34), (34, qe (.iload_n 3) 1 35), (35, qx (.invokevirtual 72) 3 38 85 2 8)]), (58, [(38, qw (.iconst 1) 1 39 1), (39, qx (.if_icmp .gt 18) 3 42 57 0 0), (42, qe (.aload_n 0) 1 43), (43, qx (.getfield 41) 3 46 7 0 2), (46, qe (.iload_n 2) 1 47), (47, qe (.iaload) 1 48), (48, qw (.bipush 99) 2 50 99), (50, qx (.if_icmp .gt 7) 3 53 57 0 0), (53, qw (.iconst 1) 1 54 1), (54, qx (.goto 4) 3 57 58 0 0), (57, qw (.iconst 0) 1 58 0), (58, qe (.ireturn) 1 59)])]
noncomputable def mt_33 : pj_T := ((⟨"PegCoats$Picture", "readsCoat", "(LPegCoats$State;LPegCoats$Tape;II)Z"⟩, prog_6_method_6_code, 4, (some .boolean)), (4, true), mc_33)
set_option maxRecDepth 100000 in
/-- 34: PegCoats$Picture.readsMan(LPegCoats$State;LPegCoats$Tape;II)Z -/
noncomputable def mc_34 : pj_M := [(18, [(0, qe (.aload_n 2) 1 1), (1, qe (.iload 4) 2 3), (3, qw (.iconst 2) 1 4 2), (4, qe (.iadd) 1 5), (5, qx (.invokevirtual 72) 3 8 85 2 8), (8, qe (.istore 5) 2 10), (10, qe (.aload_n 1) 1 11), (11, qx (.getfield 47) 3 14 7 2 2), (14, qe (.iload_n 3) 1 15), (15, qe (.aload_n 2) 1 16), (16, qe (.iload 4) 2 18), (18, qx (.invokevirtual 72) 3 21 85 2 8)]), (37, [(21, qe (.iastore) 1 22), (22, qe (.aload_n 1) 1 23), (23, qx (.getfield 50) 3 26 7 3 2), (26, qe (.iload_n 3) 1 27), (27, qe (.aload_n 2) 1 28), (28, qe (.iload 4) 2 30), (30, qw (.iconst 1) 1 31 1), (31, qe (.iadd) 1 32), (32, qx (.invokevirtual 72) 3 35 85 2 8), (35, qe (.iastore) 1 36), (36, qe (.aload_n 1) 1 37), (37, qx (.getfield 53) 3 40 7 4 2)]), (61, [(40, qe (.iload_n 3) 1 41), (41, qe (.iload 5) 2 43), (43, qw (.sipush 255) 3 46 255), (46, qx (.if_icmp .ne 7) 3 49 53 0 0), (49, qw (.iconst (-1)) 1 50 (-1)), (50, qx (.goto 5) 3 53 55 0 0), (53, qe (.iload 5) 2 55), (55, qe (.iastore) 1 56), (56, qe (.aload_n 1) 1 57), (57, qx (.getfield 56) 3 60 7 5 2), (60, qe (.iload_n 3) 1 61), (61, qe (.aload_n 2) 1 62)]), (80, [(62, qe (.iload 4) 2 64), (64, qw (.iconst 3) 1 65 3), (65, qe (.iadd) 1 66), (66, qx (.invokevirtual 72) 3 69 85 2 8), (69, qw (.bipush 8) 2 71 8), (71, qe (.ishl) 1 72), (72, qe (.aload_n 2) 1 73), (73, qe (.iload 4) 2 75), (75, qw (.iconst 4) 1 76 4), (76, qe (.iadd) 1 77), (77, qx (.invokevirtual 72) 3 80 85 2 8), (80, qe (.ior) 1 81)]), (99, [(81, qe (.iastore) 1 82), (82, qe (.aload_n 1) 1 83), (83, qx (.getfield 59) 3 86 7 6 2), (86, qe (.iload_n 3) 1 87), (87, qe (.aload_n 2) 1 88), (88, qe (.iload 4) 2 90), (90, qw (.iconst 5) 1 91 5), (91, qe (.iadd) 1 92), (92, qx (.invokevirtual 72) 3 95 85 2 8), (95, qw (.iconst 1) 1 96 1), (96, qx (.if_icmp .ne 7) 3 99 103 0 0), (99, qw (.iconst 1) 1 100 1)]), (119, [(100, qx (.goto 4) 3 103 104 0 0), (103, qw (.iconst 0) 1 104 0), (104, qe (.bastore) 1 105), (105, qe (.aload_n 1) 1 106), (106, qx (.getfield 47) 3 109 7 2 2), (109, qe (.iload_n 3) 1 110), (110, qe (.iaload) 1 111), (111, qw (.iconst 1) 1 112 1), (112, qx (.if_icmp .lt 25) 3 115 137 0 0), (115, qe (.aload_n 1) 1 116), (116, qx (.getfield 47) 3 119 7 2 2), (119, qe (.iload_n 3) 1 120)]), (139, [(120, qe (.iaload) 1 121), (121, qw (.bipush 99) 2 123 99), (123, qx (.if_icmp .gt 14) 3 126 137 0 0), (126, qe (.aload_n 1) 1 127), (127, qx (.getfield 50) 3 130 7 3 2), (130, qe (.iload_n 3) 1 131), (131, qe (.iaload) 1 132), (132, qw (.bipush 99) 2 134 99), (134, qx (.if_icmp .le 5) 3 137 139 0 0), (137, qw (.iconst 0) 1 138 0), (138, qe (.ireturn) 1 139), (139, qe (.aload_n 1) 1 140)]), (160, [(140, qx (.getfield 56) 3 143 7 5 2), (143, qe (.iload_n 3) 1 144), (144, qe (.iaload) 1 145), (145, qw (.sipush 9999) 3 148 9999), (148, qx (.if_icmp .gt 15) 3 151 163 0 0), (151, qe (.aload_n 2) 1 152), (152, qe (.iload 4) 2 154), (154, qw (.iconst 5) 1 155 5), (155, qe (.iadd) 1 156), (156, qx (.invokevirtual 72) 3 159 85 2 8), (159, qw (.iconst 1) 1 160 1), (160, qx (.if_icmp .le 5) 3 163 165 0 0)]), (186, [(163, qw (.iconst 0) 1 164 0), (164, qe (.ireturn) 1 165), (165, qe (.iload 5) 2 167), (167, qw (.sipush 255) 3 170 255), (170, qx (.if_icmp .eq 34) 3 173 204 0 0), (173, qe (.iload 5) 2 175), (175, qe (.aload_n 0) 1 176), (176, qx (.getfield 19) 3 179 4 0 2), (179, qx (.getfield 32) 3 182 10 12 0), (182, qx (.if_icmp .ge 26) 3 185 208 0 0), (185, qe (.aload_n 1) 1 186), (186, qx (.getfield 37) 3 189 7 1 2)]), (209, [(189, qe (.iload 5) 2 191), (191, qe (.baload) 1 192), (192, qx (.ifCond .ne 16) 3 195 208 0 0), (195, qe (.aload_n 1) 1 196), (196, qx (.getfield 59) 3 199 7 6 2), (199, qe (.iload_n 3) 1 200), (200, qe (.baload) 1 201), (201, qx (.ifCond .eq 7) 3 204 208 0 0), (204, qw (.iconst 1) 1 205 1), (205, qx (.goto 4) 3 208 209 0 0), (208, qw (.iconst 0) 1 209 0), (209, qe (.ireturn) 1 210)])]
noncomputable def mt_34 : pj_T := ((⟨"PegCoats$Picture", "readsMan", "(LPegCoats$State;LPegCoats$Tape;II)Z"⟩, prog_6_method_7_code, 6, (some .boolean)), (4, true), mc_34)
set_option maxRecDepth 100000 in
/-- 35: PegCoats$Reading.<init>(LPegCoats$Tape;LPegCoats$Works;)V -/
noncomputable def mc_35 : pj_M := [(19, [(0, qe (.aload_n 0) 1 1), (1, qx (.invokespecial 3) 3 4 1000 1 0), (4, qe (.aload_n 0) 1 5), (5, qw (.iconst 0) 1 6 0), (6, qx (.putfield 9) 3 9 5 2 0), (9, qe (.aload_n 0) 1 10), (10, qw (.iconst (-1)) 1 11 (-1)), (11, qx (.putfield 15) 3 14 5 3 0), (14, qe (.aload_n 0) 1 15), (15, qw (.iconst 0) 1 16 0), (16, qx (.putfield 18) 3 19 5 4 0), (19, qe (.aload_n 0) 1 20)]), (41, [(20, qw (.iconst 0) 1 21 0), (21, qx (.putfield 21) 3 24 5 5 0), (24, qe (.aload_n 0) 1 25), (25, qx (.new 24) 3 28 6 8 0), (28, qe (.dup) 1 29), (29, qe (.aload_n 1) 1 30), (30, qx (.invokespecial 26) 3 33 63 2 6), (33, qx (.putfield 29) 3 36 5 0 2), (36, qe (.aload_n 0) 1 37), (37, qe (.aload_n 2) 1 38), (38, qx (.putfield 33) 3 41 5 1 2), (41, qe (.return_) 1 42)])]
noncomputable def mt_35 : pj_T := ((⟨"PegCoats$Reading", "<init>", "(LPegCoats$Tape;LPegCoats$Works;)V"⟩, prog_7_method_1_code, 3, none), (5, false), mc_35)
set_option maxRecDepth 100000 in
/-- 36: PegCoats$Reading.readAll()V -/
noncomputable def mc_36 : pj_M := [(19, [(0, qe (.aload_n 0) 1 1), (1, qx (.getfield 33) 3 4 5 1 2), (4, qx (.invokevirtual 37) 3 7 100 1 10), (7, qe (.aload_n 0) 1 8), (8, qw (.iconst 0) 1 9 0), (9, qx (.putfield 9) 3 12 5 2 0), (12, qe (.aload_n 0) 1 13), (13, qw (.iconst (-1)) 1 14 (-1)), (14, qx (.putfield 15) 3 17 5 3 0), (17, qe (.aload_n 0) 1 18), (18, qw (.iconst 0) 1 19 0), (19, qx (.putfield 18) 3 22 5 4 0)]), (44, [(22, qe (.aload_n 0) 1 23), (23, qx (.getfield 29) 3 26 5 0 2), (26, qx (.invokevirtual 42) 3 29 64 1 6), (29, qw (.iconst 0) 1 30 0), (30, qe (.istore_n 1) 1 31), (31, qe (.iload_n 1) 1 32), (32, qw (.bipush 80) 2 34 80), (34, qx (.if_icmp .gt 30) 3 37 64 0 0), (37, qe (.aload_n 0) 1 38), (38, qx (.invokevirtual 45) 3 41 37 1 5), (41, qx (.ifCond .ne 23) 3 44 64 0 0), (44, qe (.aload_n 0) 1 45)]), (64, [(45, qx (.getfield 29) 3 48 5 0 2), (48, qx (.getfield 49) 3 51 6 2 0), (51, qx (.ifCond .eq 13) 3 54 64 0 0), (54, qe (.aload_n 0) 1 55), (55, qx (.invokevirtual 52) 3 58 38 1 5), (58, qw (.iinc 1 1) 3 61 1), (61, qx (.goto (-30)) 3 64 31 0 0), (64, qe (.return_) 1 65)])]
noncomputable def mt_36 : pj_T := ((⟨"PegCoats$Reading", "readAll", "()V"⟩, prog_7_method_3_code, 2, none), (5, false), mc_36)
set_option maxRecDepth 100000 in
/-- 37: PegCoats$Reading.failed()Z -/
noncomputable def mc_37 : pj_M := [(12, [(0, qe (.aload_n 0) 1 1), (1, qx (.getfield 9) 3 4 5 2 0), (4, qx (.ifCond .eq 7) 3 7 11 0 0), (7, qw (.iconst 1) 1 8 1), (8, qx (.goto 4) 3 11 12 0 0), (11, qw (.iconst 0) 1 12 0), (12, qe (.ireturn) 1 13)])]
noncomputable def mt_37 : pj_T := ((⟨"PegCoats$Reading", "failed", "()Z"⟩, prog_7_method_2_code, 1, (some .boolean)), (5, true), mc_37)
set_option maxRecDepth 100000 in
/-- 38: PegCoats$Reading.readStatement()V -/
noncomputable def mc_38 : pj_M := [(25, [(0, qe (.aload_n 0) 1 1), (1, qx (.getfield 33) 3 4 5 1 2), (4, qx (.getfield 55) 3 7 10 16 0), (7, qw (.bipush 80) 2 9 80), (9, qx (.if_icmp .lt 17) 3 12 26 0 0), (12, qe (.aload_n 0) 1 13), (13, qw (.bipush 6) 2 15 6), (15, qe (.aload_n 0) 1 16), (16, qx (.getfield 29) 3 19 5 0 2), (19, qx (.getfield 58) 3 22 6 5 0), (22, qx (.invokevirtual 61) 3 25 39 3 5), (25, qe (.return_) 1 26)]), (107, [(26, qe (.aload_n 0) 1 27), (27, qx (.getfield 29) 3 30 5 0 2), (30, qx (.getfield 65) 3 33 6 4 0), (33, qs (.tableswitch 128 0 10 #[59, 128, 128, 66, 128, 73, 128, 80, 88, 96, 104]) 59 92 161 [(0, 92), (1, 161), (2, 161), (3, 99), (4, 161), (5, 106), (6, 161), (7, 113), (8, 121), (9, 129), (10, 137)]), (92, qe (.aload_n 0) 1 93), (93, qx (.invokevirtual 68) 3 96 40 1 5), (96, qx (.goto 69) 3 99 165 0 0), (99, qe (.aload_n 0) 1 100), (100, qx (.invokevirtual 71) 3 103 46 1 5), (103, qx (.goto 62) 3 106 165 0 0), (106, qe (.aload_n 0) 1 107), (107, qx (.invokevirtual 74) 3 110 47 1 5)]), (131, [(110, qx (.goto 55) 3 113 165 0 0), (113, qe (.aload_n 0) 1 114), (114, qw (.iconst 0) 1 115 0), (115, qx (.invokevirtual 77) 3 118 48 2 5), (118, qx (.goto 47) 3 121 165 0 0), (121, qe (.aload_n 0) 1 122), (122, qw (.iconst 1) 1 123 1), (123, qx (.invokevirtual 77) 3 126 48 2 5), (126, qx (.goto 39) 3 129 165 0 0), (129, qe (.aload_n 0) 1 130), (130, qw (.iconst 2) 1 131 2), (131, qx (.invokevirtual 77) 3 134 48 2 5)]), (158, [(134, qx (.goto 31) 3 137 165 0 0), (137, qe (.aload_n 0) 1 138), (138, qx (.getfield 29) 3 141 5 0 2), (141, qx (.invokevirtual 81) 3 144 65 1 6), (144, qe (.aload_n 0) 1 145), (145, qx (.getfield 33) 3 148 5 1 2), (148, qe (.aload_n 0) 1 149), (149, qw (.iconst 0) 1 150 0), (150, qw (.bipush 100) 2 152 100), (152, qx (.invokevirtual 84) 3 155 45 3 5), (155, qx (.putfield 88) 3 158 10 15 0), (158, qx (.goto 7) 3 161 165 0 0)]), (181, [(161, qe (.aload_n 0) 1 162), (162, qx (.invokevirtual 91) 3 165 43 1 5), (165, qe (.aload_n 0) 1 166), (166, qw (.bipush 59) 2 168 59), (168, qx (.invokevirtual 94) 3 171 55 2 5), (171, qe (.aload_n 0) 1 172), (172, qx (.getfield 33) 3 175 5 1 2), (175, qe (.dup) 1 176), (176, qx (.getfield 55) 3 179 10 16 0), (179, qw (.iconst 1) 1 180 1), (180, qe (.iadd) 1 181), (181, qx (.putfield 55) 3 184 10 16 0)]), (184, [(184, qe (.return_) 1 185)])]
noncomputable def mt_38 : pj_T := ((⟨"PegCoats$Reading", "readStatement", "()V"⟩, prog_7_method_4_code, 1, none), (5, false), mc_38)
set_option maxRecDepth 100000 in
/-- 39: PegCoats$Reading.fail(II)V -/
noncomputable def mc_39 : pj_M := [(17, [(0, qe (.aload_n 0) 1 1), (1, qx (.getfield 9) 3 4 5 2 0), (4, qx (.ifCond .ne 13) 3 7 17 0 0), (7, qe (.aload_n 0) 1 8), (8, qe (.iload_n 1) 1 9), (9, qx (.putfield 9) 3 12 5 2 0), (12, qe (.aload_n 0) 1 13), (13, qe (.iload_n 2) 1 14), (14, qx (.putfield 15) 3 17 5 3 0), (17, qe (.return_) 1 18)])]
noncomputable def mt_39 : pj_T := ((⟨"PegCoats$Reading", "fail", "(II)V"⟩, prog_7_method_28_code, 3, none), (5, false), mc_39)
set_option maxRecDepth 100000 in
/-- 40: PegCoats$Reading.readCoat()V -/
noncomputable def mc_40 : pj_M := [(21, [(0, qe (.aload_n 0) 1 1), (1, qx (.getfield 33) 3 4 5 1 2), (4, qx (.getfield 98) 3 7 10 12 0), (7, qe (.istore_n 1) 1 8), (8, qe (.iload_n 1) 1 9), (9, qw (.bipush 8) 2 11 8), (11, qx (.if_icmp .lt 17) 3 14 28 0 0), (14, qe (.aload_n 0) 1 15), (15, qw (.bipush 6) 2 17 6), (17, qe (.aload_n 0) 1 18), (18, qx (.getfield 29) 3 21 5 0 2), (21, qx (.getfield 58) 3 24 6 5 0)]), (47, [(24, qx (.invokevirtual 61) 3 27 39 3 5), (27, qe (.return_) 1 28), (28, qe (.aload_n 0) 1 29), (29, qx (.getfield 29) 3 32 5 0 2), (32, qx (.invokevirtual 81) 3 35 65 1 6), (35, qe (.aload_n 0) 1 36), (36, qx (.getfield 33) 3 39 5 1 2), (39, qx (.getfield 101) 3 42 10 0 2), (42, qe (.iload_n 1) 1 43), (43, qe (.aload_n 0) 1 44), (44, qx (.invokevirtual 105) 3 47 41 1 5), (47, qe (.iastore) 1 48)]), (68, [(48, qe (.aload_n 0) 1 49), (49, qw (.iconst 1) 1 50 1), (50, qx (.invokevirtual 109) 3 53 44 2 5), (53, qe (.aload_n 0) 1 54), (54, qx (.getfield 33) 3 57 5 1 2), (57, qx (.getfield 112) 3 60 10 1 2), (60, qe (.iload_n 1) 1 61), (61, qe (.aload_n 0) 1 62), (62, qw (.iconst 1) 1 63 1), (63, qw (.bipush 99) 2 65 99), (65, qx (.invokevirtual 84) 3 68 45 3 5), (68, qe (.iastore) 1 69)]), (89, [(69, qe (.aload_n 0) 1 70), (70, qw (.iconst 2) 1 71 2), (71, qx (.invokevirtual 109) 3 74 44 2 5), (74, qe (.aload_n 0) 1 75), (75, qx (.getfield 33) 3 78 5 1 2), (78, qx (.getfield 115) 3 81 10 2 2), (81, qe (.iload_n 1) 1 82), (82, qe (.aload_n 0) 1 83), (83, qw (.iconst 0) 1 84 0), (84, qw (.bipush 99) 2 86 99), (86, qx (.invokevirtual 84) 3 89 45 3 5), (89, qe (.iastore) 1 90)]), (103, [(90, qe (.aload_n 0) 1 91), (91, qx (.getfield 33) 3 94 5 1 2), (94, qe (.dup) 1 95), (95, qx (.getfield 98) 3 98 10 12 0), (98, qw (.iconst 1) 1 99 1), (99, qe (.iadd) 1 100), (100, qx (.putfield 98) 3 103 10 12 0), (103, qe (.return_) 1 104)])]
noncomputable def mt_40 : pj_T := ((⟨"PegCoats$Reading", "readCoat", "()V"⟩, prog_7_method_5_code, 2, none), (5, false), mc_40)
set_option maxRecDepth 100000 in
/-- 41: PegCoats$Reading.takeNewName()I -/
noncomputable def mc_41 : pj_M := [(21, [(0, qe (.aload_n 0) 1 1), (1, qx (.invokevirtual 133) 3 4 42 1 5), (4, qe (.istore_n 1) 1 5), (5, qe (.aload_n 0) 1 6), (6, qx (.getfield 33) 3 9 5 1 2), (9, qe (.iload_n 1) 1 10), (10, qx (.invokevirtual 140) 3 13 101 2 10), (13, qw (.iconst (-1)) 1 14 (-1)), (14, qx (.if_icmp .ne 15) 3 17 29 0 0), (17, qe (.aload_n 0) 1 18), (18, qx (.getfield 33) 3 21 5 1 2), (21, qe (.iload_n 1) 1 22)]), (45, [(22, qx (.invokevirtual 136) 3 25 102 2 10), (25, qw (.iconst (-1)) 1 26 (-1)), (26, qx (.if_icmp .eq 15) 3 29 41 0 0), (29, qe (.aload_n 0) 1 30), (30, qw (.iconst 2) 1 31 2), (31, qe (.aload_n 0) 1 32), (32, qx (.getfield 29) 3 35 5 0 2), (35, qx (.getfield 58) 3 38 6 5 0), (38, qx (.invokevirtual 61) 3 41 39 3 5), (41, qe (.aload_n 0) 1 42), (42, qx (.getfield 29) 3 45 5 0 2), (45, qx (.invokevirtual 81) 3 48 65 1 6)]), (49, [(48, qe (.iload_n 1) 1 49), (49, qe (.ireturn) 1 50)])]
noncomputable def mt_41 : pj_T := ((⟨"PegCoats$Reading", "takeNewName", "()I"⟩, prog_7_method_22_code, 2, (some .int)), (5, false), mc_41)
set_option maxRecDepth 100000 in
/-- 42: PegCoats$Reading.peekName()I -/
noncomputable def mc_42 : pj_M := [(25, [(0, qe (.aload_n 0) 1 1), (1, qx (.invokevirtual 45) 3 4 37 1 5), (4, qx (.ifCond .ne 25) 3 7 29 0 0), (7, qe (.aload_n 0) 1 8), (8, qx (.getfield 29) 3 11 5 0 2), (11, qx (.getfield 49) 3 14 6 2 0), (14, qw (.iconst 1) 1 15 1), (15, qx (.if_icmp .ne 14) 3 18 29 0 0), (18, qe (.aload_n 0) 1 19), (19, qx (.getfield 29) 3 22 5 0 2), (22, qx (.getfield 65) 3 25 6 4 0), (25, qw (.iconst (-1)) 1 26 (-1))]), (42, [(26, qx (.if_icmp .eq 9) 3 29 35 0 0), (29, qe (.aload_n 0) 1 30), (30, qx (.invokevirtual 91) 3 33 43 1 5), (33, qw (.iconst 0) 1 34 0), (34, qe (.ireturn) 1 35), (35, qe (.aload_n 0) 1 36), (36, qx (.getfield 29) 3 39 5 0 2), (39, qx (.getfield 187) 3 42 6 3 0), (42, qe (.ireturn) 1 43)])]
noncomputable def mt_42 : pj_T := ((⟨"PegCoats$Reading", "peekName", "()I"⟩, prog_7_method_23_code, 1, (some .int)), (5, false), mc_42)
set_option maxRecDepth 100000 in
/-- 43: PegCoats$Reading.failHere()V -/
noncomputable def mc_43 : pj_M := [(12, [(0, qe (.aload_n 0) 1 1), (1, qw (.iconst 1) 1 2 1), (2, qe (.aload_n 0) 1 3), (3, qx (.getfield 29) 3 6 5 0 2), (6, qx (.getfield 208) 3 9 6 6 0), (9, qx (.invokevirtual 61) 3 12 39 3 5), (12, qe (.return_) 1 13)])]
noncomputable def mt_43 : pj_T := ((⟨"PegCoats$Reading", "failHere", "()V"⟩, prog_7_method_27_code, 1, none), (5, false), mc_43)
set_option maxRecDepth 100000 in
/-- 44: PegCoats$Reading.takeWord(I)V -/
noncomputable def mc_44 : pj_M := [(23, [(0, qe (.aload_n 0) 1 1), (1, qx (.invokevirtual 45) 3 4 37 1 5), (4, qx (.ifCond .ne 14) 3 7 18 0 0), (7, qe (.aload_n 0) 1 8), (8, qx (.getfield 29) 3 11 5 0 2), (11, qx (.getfield 65) 3 14 6 4 0), (14, qe (.iload_n 1) 1 15), (15, qx (.if_icmp .eq 8) 3 18 23 0 0), (18, qe (.aload_n 0) 1 19), (19, qx (.invokevirtual 91) 3 22 43 1 5), (22, qe (.return_) 1 23), (23, qe (.aload_n 0) 1 24)]), (30, [(24, qx (.getfield 29) 3 27 5 0 2), (27, qx (.invokevirtual 81) 3 30 65 1 6), (30, qe (.return_) 1 31)])]
noncomputable def mt_44 : pj_T := ((⟨"PegCoats$Reading", "takeWord", "(I)V"⟩, prog_7_method_25_code, 2, none), (5, false), mc_44)
set_option maxRecDepth 100000 in
/-- 45: PegCoats$Reading.takeNumber(II)I -/
noncomputable def mc_45 : pj_M := [(23, [(0, qe (.aload_n 0) 1 1), (1, qx (.invokevirtual 45) 3 4 37 1 5), (4, qx (.ifCond .ne 14) 3 7 18 0 0), (7, qe (.aload_n 0) 1 8), (8, qx (.getfield 29) 3 11 5 0 2), (11, qx (.getfield 49) 3 14 6 2 0), (14, qw (.iconst 2) 1 15 2), (15, qx (.if_icmp .eq 9) 3 18 24 0 0), (18, qe (.aload_n 0) 1 19), (19, qx (.invokevirtual 91) 3 22 43 1 5), (22, qw (.iconst 0) 1 23 0), (23, qe (.ireturn) 1 24)]), (47, [(24, qe (.aload_n 0) 1 25), (25, qx (.getfield 29) 3 28 5 0 2), (28, qx (.getfield 187) 3 31 6 3 0), (31, qe (.iload_n 1) 1 32), (32, qx (.if_icmp .lt 14) 3 35 46 0 0), (35, qe (.aload_n 0) 1 36), (36, qx (.getfield 29) 3 39 5 0 2), (39, qx (.getfield 187) 3 42 6 3 0), (42, qe (.iload_n 2) 1 43), (43, qx (.if_icmp .le 15) 3 46 58 0 0), (46, qe (.aload_n 0) 1 47), (47, qw (.iconst 4) 1 48 4)]), (73, [(48, qe (.aload_n 0) 1 49), (49, qx (.getfield 29) 3 52 5 0 2), (52, qx (.getfield 58) 3 55 6 5 0), (55, qx (.invokevirtual 61) 3 58 39 3 5), (58, qe (.aload_n 0) 1 59), (59, qx (.getfield 29) 3 62 5 0 2), (62, qx (.getfield 187) 3 65 6 3 0), (65, qe (.istore_n 3) 1 66), (66, qe (.aload_n 0) 1 67), (67, qx (.getfield 29) 3 70 5 0 2), (70, qx (.invokevirtual 81) 3 73 65 1 6), (73, qe (.iload_n 3) 1 74)]), (74, [(74, qe (.ireturn) 1 75)])]
noncomputable def mt_45 : pj_T := ((⟨"PegCoats$Reading", "takeNumber", "(II)I"⟩, prog_7_method_24_code, 4, (some .int)), (5, false), mc_45)
set_option maxRecDepth 100000 in
/-- 46: PegCoats$Reading.readMan()V -/
noncomputable def mc_46 : pj_M := [(21, [(0, qe (.aload_n 0) 1 1), (1, qx (.getfield 33) 3 4 5 1 2), (4, qx (.getfield 118) 3 7 10 13 0), (7, qe (.istore_n 1) 1 8), (8, qe (.iload_n 1) 1 9), (9, qw (.bipush 7) 2 11 7), (11, qx (.if_icmp .lt 17) 3 14 28 0 0), (14, qe (.aload_n 0) 1 15), (15, qw (.bipush 6) 2 17 6), (17, qe (.aload_n 0) 1 18), (18, qx (.getfield 29) 3 21 5 0 2), (21, qx (.getfield 58) 3 24 6 5 0)]), (47, [(24, qx (.invokevirtual 61) 3 27 39 3 5), (27, qe (.return_) 1 28), (28, qe (.aload_n 0) 1 29), (29, qx (.getfield 29) 3 32 5 0 2), (32, qx (.invokevirtual 81) 3 35 65 1 6), (35, qe (.aload_n 0) 1 36), (36, qx (.getfield 33) 3 39 5 1 2), (39, qx (.getfield 121) 3 42 10 3 2), (42, qe (.iload_n 1) 1 43), (43, qe (.aload_n 0) 1 44), (44, qx (.invokevirtual 105) 3 47 41 1 5), (47, qe (.iastore) 1 48)]), (68, [(48, qe (.aload_n 0) 1 49), (49, qw (.iconst 1) 1 50 1), (50, qx (.invokevirtual 109) 3 53 44 2 5), (53, qe (.aload_n 0) 1 54), (54, qx (.getfield 33) 3 57 5 1 2), (57, qx (.getfield 124) 3 60 10 4 2), (60, qe (.iload_n 1) 1 61), (61, qe (.aload_n 0) 1 62), (62, qw (.iconst 1) 1 63 1), (63, qw (.bipush 99) 2 65 99), (65, qx (.invokevirtual 84) 3 68 45 3 5), (68, qe (.iastore) 1 69)]), (89, [(69, qe (.aload_n 0) 1 70), (70, qw (.iconst 4) 1 71 4), (71, qx (.invokevirtual 109) 3 74 44 2 5), (74, qe (.aload_n 0) 1 75), (75, qx (.getfield 33) 3 78 5 1 2), (78, qx (.getfield 127) 3 81 10 5 2), (81, qe (.iload_n 1) 1 82), (82, qe (.aload_n 0) 1 83), (83, qw (.iconst 0) 1 84 0), (84, qw (.bipush 99) 2 86 99), (86, qx (.invokevirtual 84) 3 89 45 3 5), (89, qe (.iastore) 1 90)]), (109, [(90, qe (.aload_n 0) 1 91), (91, qx (.getfield 33) 3 94 5 1 2), (94, qx (.getfield 130) 3 97 10 6 2), (97, qe (.iload_n 1) 1 98), (98, qw (.iconst (-1)) 1 99 (-1)), (99, qe (.iastore) 1 100), (100, qe (.aload_n 0) 1 101), (101, qx (.getfield 33) 3 104 5 1 2), (104, qe (.dup) 1 105), (105, qx (.getfield 118) 3 108 10 13 0), (108, qw (.iconst 1) 1 109 1), (109, qe (.iadd) 1 110)]), (113, [(110, qx (.putfield 118) 3 113 10 13 0), (113, qe (.return_) 1 114)])]
noncomputable def mt_46 : pj_T := ((⟨"PegCoats$Reading", "readMan", "()V"⟩, prog_7_method_6_code, 2, none), (5, false), mc_46)
set_option maxRecDepth 100000 in
/-- 47: PegCoats$Reading.readWears()V -/
noncomputable def mc_47 : pj_M := [(21, [(0, qe (.aload_n 0) 1 1), (1, qx (.getfield 29) 3 4 5 0 2), (4, qx (.invokevirtual 81) 3 7 65 1 6), (7, qe (.aload_n 0) 1 8), (8, qx (.getfield 33) 3 11 5 1 2), (11, qe (.aload_n 0) 1 12), (12, qx (.invokevirtual 133) 3 15 42 1 5), (15, qx (.invokevirtual 136) 3 18 102 2 10), (18, qe (.istore_n 1) 1 19), (19, qe (.iload_n 1) 1 20), (20, qw (.iconst (-1)) 1 21 (-1)), (21, qx (.if_icmp .eq 16) 3 24 37 0 0)]), (43, [(24, qe (.aload_n 0) 1 25), (25, qx (.getfield 33) 3 28 5 1 2), (28, qx (.getfield 130) 3 31 10 6 2), (31, qe (.iload_n 1) 1 32), (32, qe (.iaload) 1 33), (33, qw (.iconst (-1)) 1 34 (-1)), (34, qx (.if_icmp .eq 16) 3 37 50 0 0), (37, qe (.aload_n 0) 1 38), (38, qw (.iconst 3) 1 39 3), (39, qe (.aload_n 0) 1 40), (40, qx (.getfield 29) 3 43 5 0 2), (43, qx (.getfield 58) 3 46 6 5 0)]), (68, [(46, qx (.invokevirtual 61) 3 49 39 3 5), (49, qe (.return_) 1 50), (50, qe (.aload_n 0) 1 51), (51, qx (.getfield 29) 3 54 5 0 2), (54, qx (.invokevirtual 81) 3 57 65 1 6), (57, qe (.aload_n 0) 1 58), (58, qw (.bipush 6) 2 60 6), (60, qx (.invokevirtual 109) 3 63 44 2 5), (63, qe (.aload_n 0) 1 64), (64, qx (.getfield 33) 3 67 5 1 2), (67, qe (.aload_n 0) 1 68), (68, qx (.invokevirtual 133) 3 71 42 1 5)]), (92, [(71, qx (.invokevirtual 140) 3 74 101 2 10), (74, qe (.istore_n 2) 1 75), (75, qe (.iload_n 2) 1 76), (76, qw (.iconst (-1)) 1 77 (-1)), (77, qx (.if_icmp .eq 15) 3 80 92 0 0), (80, qe (.aload_n 0) 1 81), (81, qx (.getfield 33) 3 84 5 1 2), (84, qe (.iload_n 2) 1 85), (85, qx (.invokevirtual 143) 3 88 99 2 10), (88, qw (.iconst (-1)) 1 89 (-1)), (89, qx (.if_icmp .eq 16) 3 92 105 0 0), (92, qe (.aload_n 0) 1 93)]), (116, [(93, qw (.iconst 3) 1 94 3), (94, qe (.aload_n 0) 1 95), (95, qx (.getfield 29) 3 98 5 0 2), (98, qx (.getfield 58) 3 101 6 5 0), (101, qx (.invokevirtual 61) 3 104 39 3 5), (104, qe (.return_) 1 105), (105, qe (.aload_n 0) 1 106), (106, qx (.getfield 29) 3 109 5 0 2), (109, qx (.invokevirtual 81) 3 112 65 1 6), (112, qe (.aload_n 0) 1 113), (113, qx (.getfield 33) 3 116 5 1 2), (116, qx (.getfield 130) 3 119 10 6 2)]), (122, [(119, qe (.iload_n 1) 1 120), (120, qe (.iload_n 2) 1 121), (121, qe (.iastore) 1 122), (122, qe (.return_) 1 123)])]
noncomputable def mt_47 : pj_T := ((⟨"PegCoats$Reading", "readWears", "()V"⟩, prog_7_method_7_code, 3, none), (5, false), mc_47)
set_option maxRecDepth 100000 in
/-- 48: PegCoats$Reading.readProgram(I)V -/
noncomputable def mc_48 : pj_M := [(24, [(0, qe (.aload_n 0) 1 1), (1, qx (.getfield 33) 3 4 5 1 2), (4, qe (.iload_n 1) 1 5), (5, qx (.invokevirtual 146) 3 8 103 2 10), (8, qx (.ifCond .eq 17) 3 11 25 0 0), (11, qe (.aload_n 0) 1 12), (12, qw (.bipush 6) 2 14 6), (14, qe (.aload_n 0) 1 15), (15, qx (.getfield 29) 3 18 5 0 2), (18, qx (.getfield 58) 3 21 6 5 0), (21, qx (.invokevirtual 61) 3 24 39 3 5), (24, qe (.return_) 1 25)]), (46, [(25, qe (.aload_n 0) 1 26), (26, qx (.getfield 29) 3 29 5 0 2), (29, qx (.invokevirtual 81) 3 32 65 1 6), (32, qe (.aload_n 0) 1 33), (33, qe (.iload_n 1) 1 34), (34, qx (.putfield 21) 3 37 5 5 0), (37, qe (.aload_n 0) 1 38), (38, qx (.getfield 33) 3 41 5 1 2), (41, qx (.getfield 150) 3 44 10 8 2), (44, qe (.iload_n 1) 1 45), (45, qe (.aload_n 0) 1 46), (46, qx (.getfield 33) 3 49 5 1 2)]), (70, [(49, qx (.getfield 153) 3 52 10 14 0), (52, qe (.iastore) 1 53), (53, qe (.iload_n 1) 1 54), (54, qw (.iconst 2) 1 55 2), (55, qx (.if_icmp .ne 10) 3 58 65 0 0), (58, qe (.aload_n 0) 1 59), (59, qx (.invokevirtual 156) 3 62 49 1 5), (62, qx (.goto 7) 3 65 69 0 0), (65, qe (.aload_n 0) 1 66), (66, qx (.invokevirtual 159) 3 69 57 1 5), (69, qe (.aload_n 0) 1 70), (70, qx (.getfield 33) 3 73 5 1 2)]), (85, [(73, qx (.getfield 162) 3 76 10 9 2), (76, qe (.iload_n 1) 1 77), (77, qe (.aload_n 0) 1 78), (78, qx (.getfield 33) 3 81 5 1 2), (81, qx (.getfield 153) 3 84 10 14 0), (84, qe (.iastore) 1 85), (85, qe (.return_) 1 86)])]
noncomputable def mt_48 : pj_T := ((⟨"PegCoats$Reading", "readProgram", "(I)V"⟩, prog_7_method_8_code, 2, none), (5, false), mc_48)
set_option maxRecDepth 100000 in
/-- 49: PegCoats$Reading.readTest()V -/
noncomputable def mc_49 : pj_M := [(21, [(0, qe (.aload_n 0) 1 1), (1, qx (.invokevirtual 165) 3 4 50 1 5), (4, qw (.iconst 0) 1 5 0), (5, qe (.istore_n 1) 1 6), (6, qe (.iload_n 1) 1 7), (7, qw (.sipush 1600) 3 10 1600), (10, qx (.if_icmp .ge 45) 3 13 55 0 0), (13, qe (.aload_n 0) 1 14), (14, qx (.invokevirtual 45) 3 17 37 1 5), (17, qx (.ifCond .ne 38) 3 20 55 0 0), (20, qe (.aload_n 0) 1 21), (21, qx (.getfield 29) 3 24 5 0 2)]), (49, [(24, qx (.getfield 65) 3 27 6 4 0), (27, qw (.bipush 16) 2 29 16), (29, qx (.if_icmp .ne 26) 3 32 55 0 0), (32, qe (.aload_n 0) 1 33), (33, qx (.getfield 29) 3 36 5 0 2), (36, qx (.invokevirtual 81) 3 39 65 1 6), (39, qe (.aload_n 0) 1 40), (40, qx (.invokevirtual 165) 3 43 50 1 5), (43, qe (.aload_n 0) 1 44), (44, qw (.bipush (-46)) 2 46 (-46)), (46, qx (.invokevirtual 168) 3 49 53 2 5), (49, qw (.iinc 1 1) 3 52 1)]), (55, [(52, qx (.goto (-46)) 3 55 6 0 0), (55, qe (.return_) 1 56)])]
noncomputable def mt_49 : pj_T := ((⟨"PegCoats$Reading", "readTest", "()V"⟩, prog_7_method_9_code, 2, none), (5, false), mc_49)
set_option maxRecDepth 100000 in
/-- 50: PegCoats$Reading.readBoth()V -/
noncomputable def mc_50 : pj_M := [(21, [(0, qe (.aload_n 0) 1 1), (1, qx (.invokevirtual 171) 3 4 51 1 5), (4, qw (.iconst 0) 1 5 0), (5, qe (.istore_n 1) 1 6), (6, qe (.iload_n 1) 1 7), (7, qw (.sipush 1600) 3 10 1600), (10, qx (.if_icmp .ge 45) 3 13 55 0 0), (13, qe (.aload_n 0) 1 14), (14, qx (.invokevirtual 45) 3 17 37 1 5), (17, qx (.ifCond .ne 38) 3 20 55 0 0), (20, qe (.aload_n 0) 1 21), (21, qx (.getfield 29) 3 24 5 0 2)]), (49, [(24, qx (.getfield 65) 3 27 6 4 0), (27, qw (.bipush 17) 2 29 17), (29, qx (.if_icmp .ne 26) 3 32 55 0 0), (32, qe (.aload_n 0) 1 33), (33, qx (.getfield 29) 3 36 5 0 2), (36, qx (.invokevirtual 81) 3 39 65 1 6), (39, qe (.aload_n 0) 1 40), (40, qx (.invokevirtual 171) 3 43 51 1 5), (43, qe (.aload_n 0) 1 44), (44, qw (.bipush (-47)) 2 46 (-47)), (46, qx (.invokevirtual 168) 3 49 53 2 5), (49, qw (.iinc 1 1) 3 52 1)]), (55, [(52, qx (.goto (-46)) 3 55 6 0 0), (55, qe (.return_) 1 56)])]
noncomputable def mt_50 : pj_T := ((⟨"PegCoats$Reading", "readBoth", "()V"⟩, prog_7_method_10_code, 2, none), (5, false), mc_50)
set_option maxRecDepth 100000 in
/-- 51: PegCoats$Reading.readFact()V -/
noncomputable def mc_51 : pj_M := [(24, [(0, qe (.aload_n 0) 1 1), (1, qx (.invokevirtual 45) 3 4 37 1 5), (4, qx (.ifCond .eq 4) 3 7 8 0 0), (7, qe (.return_) 1 8), (8, qe (.aload_n 0) 1 9), (9, qx (.getfield 29) 3 12 5 0 2), (12, qx (.getfield 65) 3 15 6 4 0), (15, qw (.bipush 18) 2 17 18), (17, qx (.if_icmp .ne 33) 3 20 50 0 0), (20, qe (.aload_n 0) 1 21), (21, qx (.invokevirtual 174) 3 24 52 1 5), (24, qx (.ifCond .eq 89) 3 27 113 0 0)]), (47, [(27, qe (.aload_n 0) 1 28), (28, qx (.invokevirtual 171) 3 31 51 1 5), (31, qe (.aload_n 0) 1 32), (32, qe (.dup) 1 33), (33, qx (.getfield 18) 3 36 5 4 0), (36, qw (.iconst 1) 1 37 1), (37, qe (.isub) 1 38), (38, qx (.putfield 18) 3 41 5 4 0), (41, qe (.aload_n 0) 1 42), (42, qw (.bipush (-48)) 2 44 (-48)), (44, qx (.invokevirtual 168) 3 47 53 2 5), (47, qx (.goto 66) 3 50 113 0 0)]), (74, [(50, qe (.aload_n 0) 1 51), (51, qx (.getfield 29) 3 54 5 0 2), (54, qw (.bipush 91) 2 56 91), (56, qx (.invokevirtual 177) 3 59 69 2 6), (59, qx (.ifCond .eq 23) 3 62 82 0 0), (62, qe (.aload_n 0) 1 63), (63, qx (.invokevirtual 174) 3 66 52 1 5), (66, qx (.ifCond .eq 47) 3 69 113 0 0), (69, qe (.aload_n 0) 1 70), (70, qx (.invokevirtual 156) 3 73 49 1 5), (73, qe (.aload_n 0) 1 74), (74, qw (.bipush 93) 2 76 93)]), (102, [(76, qx (.invokevirtual 181) 3 79 54 2 5), (79, qx (.goto 34) 3 82 113 0 0), (82, qe (.aload_n 0) 1 83), (83, qx (.getfield 29) 3 86 5 0 2), (86, qx (.getfield 65) 3 89 6 4 0), (89, qw (.bipush 19) 2 91 19), (91, qx (.if_icmp .ne 18) 3 94 109 0 0), (94, qe (.aload_n 0) 1 95), (95, qx (.getfield 29) 3 98 5 0 2), (98, qx (.invokevirtual 81) 3 101 65 1 6), (101, qe (.aload_n 0) 1 102), (102, qw (.iconst 1) 1 103 1)]), (113, [(103, qx (.invokevirtual 168) 3 106 53 2 5), (106, qx (.goto 7) 3 109 113 0 0), (109, qe (.aload_n 0) 1 110), (110, qx (.invokevirtual 184) 3 113 56 1 5), (113, qe (.return_) 1 114)])]
noncomputable def mt_51 : pj_T := ((⟨"PegCoats$Reading", "readFact", "()V"⟩, prog_7_method_11_code, 1, none), (5, false), mc_51)
set_option maxRecDepth 100000 in
/-- 52: PegCoats$Reading.opens()Z -/
noncomputable def mc_52 : pj_M := [(22, [(0, qe (.aload_n 0) 1 1), (1, qx (.getfield 18) 3 4 5 4 0), (4, qw (.bipush 7) 2 6 7), (6, qx (.if_icmp .lt 17) 3 9 23 0 0), (9, qe (.aload_n 0) 1 10), (10, qw (.iconst 5) 1 11 5), (11, qe (.aload_n 0) 1 12), (12, qx (.getfield 29) 3 15 5 0 2), (15, qx (.getfield 58) 3 18 6 5 0), (18, qx (.invokevirtual 61) 3 21 39 3 5), (21, qw (.iconst 0) 1 22 0), (22, qe (.ireturn) 1 23)]), (41, [(23, qe (.aload_n 0) 1 24), (24, qe (.dup) 1 25), (25, qx (.getfield 18) 3 28 5 4 0), (28, qw (.iconst 1) 1 29 1), (29, qe (.iadd) 1 30), (30, qx (.putfield 18) 3 33 5 4 0), (33, qe (.aload_n 0) 1 34), (34, qx (.getfield 29) 3 37 5 0 2), (37, qx (.invokevirtual 81) 3 40 65 1 6), (40, qw (.iconst 1) 1 41 1), (41, qe (.ireturn) 1 42)])]
noncomputable def mt_52 : pj_T := ((⟨"PegCoats$Reading", "opens", "()Z"⟩, prog_7_method_19_code, 1, (some .boolean)), (5, true), mc_52)
set_option maxRecDepth 100000 in
/-- 53: PegCoats$Reading.emit(I)V -/
noncomputable def mc_53 : pj_M := [(25, [(0, qe (.aload_n 0) 1 1), (1, qx (.getfield 33) 3 4 5 1 2), (4, qx (.getfield 153) 3 7 10 14 0), (7, qe (.aload_n 0) 1 8), (8, qx (.getfield 33) 3 11 5 1 2), (11, qx (.getfield 205) 3 14 10 7 2), (14, qe (.arraylength) 1 15), (15, qx (.if_icmp .ge 32) 3 18 47 0 0), (18, qe (.aload_n 0) 1 19), (19, qx (.getfield 33) 3 22 5 1 2), (22, qx (.getfield 205) 3 25 10 7 2), (25, qe (.aload_n 0) 1 26)]), (47, [(26, qx (.getfield 33) 3 29 5 1 2), (29, qx (.getfield 153) 3 32 10 14 0), (32, qe (.iload_n 1) 1 33), (33, qe (.iastore) 1 34), (34, qe (.aload_n 0) 1 35), (35, qx (.getfield 33) 3 38 5 1 2), (38, qe (.dup) 1 39), (39, qx (.getfield 153) 3 42 10 14 0), (42, qw (.iconst 1) 1 43 1), (43, qe (.iadd) 1 44), (44, qx (.putfield 153) 3 47 10 14 0), (47, qe (.return_) 1 48)])]
noncomputable def mt_53 : pj_T := ((⟨"PegCoats$Reading", "emit", "(I)V"⟩, prog_7_method_21_code, 2, none), (5, false), mc_53)
set_option maxRecDepth 100000 in
/-- 54: PegCoats$Reading.closes(C)V -/
noncomputable def mc_54 : pj_M := [(15, [(0, qe (.aload_n 0) 1 1), (1, qe (.iload_n 1) 1 2), (2, qx (.invokevirtual 94) 3 5 55 2 5), (5, qe (.aload_n 0) 1 6), (6, qe (.dup) 1 7), (7, qx (.getfield 18) 3 10 5 4 0), (10, qw (.iconst 1) 1 11 1), (11, qe (.isub) 1 12), (12, qx (.putfield 18) 3 15 5 4 0), (15, qe (.return_) 1 16)])]
noncomputable def mt_54 : pj_T := ((⟨"PegCoats$Reading", "closes", "(C)V"⟩, prog_7_method_20_code, 2, none), (5, false), mc_54)
set_option maxRecDepth 100000 in
/-- 55: PegCoats$Reading.takeSign(C)V -/
noncomputable def mc_55 : pj_M := [(23, [(0, qe (.aload_n 0) 1 1), (1, qx (.invokevirtual 45) 3 4 37 1 5), (4, qx (.ifCond .ne 14) 3 7 18 0 0), (7, qe (.aload_n 0) 1 8), (8, qx (.getfield 29) 3 11 5 0 2), (11, qe (.iload_n 1) 1 12), (12, qx (.invokevirtual 177) 3 15 69 2 6), (15, qx (.ifCond .ne 8) 3 18 23 0 0), (18, qe (.aload_n 0) 1 19), (19, qx (.invokevirtual 91) 3 22 43 1 5), (22, qe (.return_) 1 23), (23, qe (.aload_n 0) 1 24)]), (30, [(24, qx (.getfield 29) 3 27 5 0 2), (27, qx (.invokevirtual 81) 3 30 65 1 6), (30, qe (.return_) 1 31)])]
noncomputable def mt_55 : pj_T := ((⟨"PegCoats$Reading", "takeSign", "(C)V"⟩, prog_7_method_26_code, 2, none), (5, false), mc_55)
set_option maxRecDepth 100000 in
/-- 56: PegCoats$Reading.readComparison()V -/
noncomputable def mc_56 : pj_M := [(25, [(0, qe (.aload_n 0) 1 1), (1, qx (.invokevirtual 159) 3 4 57 1 5), (4, qe (.aload_n 0) 1 5), (5, qx (.getfield 29) 3 8 5 0 2), (8, qw (.bipush 60) 2 10 60), (10, qx (.invokevirtual 177) 3 13 69 2 6), (13, qx (.ifCond .ne 32) 3 16 45 0 0), (16, qe (.aload_n 0) 1 17), (17, qx (.getfield 29) 3 20 5 0 2), (20, qw (.bipush 62) 2 22 62), (22, qx (.invokevirtual 177) 3 25 69 2 6), (25, qx (.ifCond .ne 20) 3 28 45 0 0)]), (51, [(28, qe (.aload_n 0) 1 29), (29, qx (.getfield 29) 3 32 5 0 2), (32, qw (.bipush 61) 2 34 61), (34, qx (.invokevirtual 177) 3 37 69 2 6), (37, qx (.ifCond .ne 8) 3 40 45 0 0), (40, qe (.aload_n 0) 1 41), (41, qx (.invokevirtual 91) 3 44 43 1 5), (44, qe (.return_) 1 45), (45, qw (.bipush (-100)) 2 47 (-100)), (47, qe (.aload_n 0) 1 48), (48, qx (.getfield 29) 3 51 5 0 2), (51, qx (.getfield 187) 3 54 6 3 0)]), (72, [(54, qe (.isub) 1 55), (55, qe (.istore_n 1) 1 56), (56, qe (.aload_n 0) 1 57), (57, qx (.getfield 29) 3 60 5 0 2), (60, qx (.invokevirtual 81) 3 63 65 1 6), (63, qe (.aload_n 0) 1 64), (64, qx (.invokevirtual 159) 3 67 57 1 5), (67, qe (.aload_n 0) 1 68), (68, qe (.iload_n 1) 1 69), (69, qx (.invokevirtual 168) 3 72 53 2 5), (72, qe (.return_) 1 73)])]
noncomputable def mt_56 : pj_T := ((⟨"PegCoats$Reading", "readComparison", "()V"⟩, prog_7_method_12_code, 2, none), (5, false), mc_56)
set_option maxRecDepth 100000 in
/-- 57: PegCoats$Reading.readSum()V -/
noncomputable def mc_57 : pj_M := [(21, [(0, qe (.aload_n 0) 1 1), (1, qx (.invokevirtual 190) 3 4 58 1 5), (4, qw (.iconst 0) 1 5 0), (5, qe (.istore_n 1) 1 6), (6, qe (.iload_n 1) 1 7), (7, qw (.sipush 1600) 3 10 1600), (10, qx (.if_icmp .ge 67) 3 13 77 0 0), (13, qe (.aload_n 0) 1 14), (14, qx (.invokevirtual 45) 3 17 37 1 5), (17, qx (.ifCond .ne 60) 3 20 77 0 0), (20, qe (.aload_n 0) 1 21), (21, qx (.getfield 29) 3 24 5 0 2)]), (50, [(24, qw (.bipush 43) 2 26 43), (26, qx (.invokevirtual 177) 3 29 69 2 6), (29, qx (.ifCond .ne 15) 3 32 44 0 0), (32, qe (.aload_n 0) 1 33), (33, qx (.getfield 29) 3 36 5 0 2), (36, qw (.bipush 45) 2 38 45), (38, qx (.invokevirtual 177) 3 41 69 2 6), (41, qx (.ifCond .eq 36) 3 44 77 0 0), (44, qw (.bipush (-100)) 2 46 (-100)), (46, qe (.aload_n 0) 1 47), (47, qx (.getfield 29) 3 50 5 0 2), (50, qx (.getfield 187) 3 53 6 3 0)]), (74, [(53, qe (.isub) 1 54), (54, qe (.istore_n 2) 1 55), (55, qe (.aload_n 0) 1 56), (56, qx (.getfield 29) 3 59 5 0 2), (59, qx (.invokevirtual 81) 3 62 65 1 6), (62, qe (.aload_n 0) 1 63), (63, qx (.invokevirtual 190) 3 66 58 1 5), (66, qe (.aload_n 0) 1 67), (67, qe (.iload_n 2) 1 68), (68, qx (.invokevirtual 168) 3 71 53 2 5), (71, qw (.iinc 1 1) 3 74 1), (74, qx (.goto (-68)) 3 77 6 0 0)]), (77, [(77, qe (.return_) 1 78)])]
noncomputable def mt_57 : pj_T := ((⟨"PegCoats$Reading", "readSum", "()V"⟩, prog_7_method_13_code, 3, none), (5, false), mc_57)
set_option maxRecDepth 100000 in
/-- 58: PegCoats$Reading.readProduct()V -/
noncomputable def mc_58 : pj_M := [(21, [(0, qe (.aload_n 0) 1 1), (1, qx (.invokevirtual 193) 3 4 59 1 5), (4, qw (.iconst 0) 1 5 0), (5, qe (.istore_n 1) 1 6), (6, qe (.iload_n 1) 1 7), (7, qw (.sipush 1600) 3 10 1600), (10, qx (.if_icmp .ge 50) 3 13 60 0 0), (13, qe (.aload_n 0) 1 14), (14, qx (.invokevirtual 45) 3 17 37 1 5), (17, qx (.ifCond .ne 43) 3 20 60 0 0), (20, qe (.aload_n 0) 1 21), (21, qx (.invokevirtual 196) 3 24 62 1 5)]), (46, [(24, qx (.ifCond .eq 36) 3 27 60 0 0), (27, qw (.bipush (-100)) 2 29 (-100)), (29, qe (.aload_n 0) 1 30), (30, qx (.getfield 29) 3 33 5 0 2), (33, qx (.getfield 187) 3 36 6 3 0), (36, qe (.isub) 1 37), (37, qe (.istore_n 2) 1 38), (38, qe (.aload_n 0) 1 39), (39, qx (.getfield 29) 3 42 5 0 2), (42, qx (.invokevirtual 81) 3 45 65 1 6), (45, qe (.aload_n 0) 1 46), (46, qx (.invokevirtual 193) 3 49 59 1 5)]), (60, [(49, qe (.aload_n 0) 1 50), (50, qe (.iload_n 2) 1 51), (51, qx (.invokevirtual 168) 3 54 53 2 5), (54, qw (.iinc 1 1) 3 57 1), (57, qx (.goto (-51)) 3 60 6 0 0), (60, qe (.return_) 1 61)])]
noncomputable def mt_58 : pj_T := ((⟨"PegCoats$Reading", "readProduct", "()V"⟩, prog_7_method_14_code, 3, none), (5, false), mc_58)
set_option maxRecDepth 100000 in
/-- 59: PegCoats$Reading.readPart()V -/
noncomputable def mc_59 : pj_M := [(21, [(0, qe (.aload_n 0) 1 1), (1, qx (.invokevirtual 45) 3 4 37 1 5), (4, qx (.ifCond .eq 4) 3 7 8 0 0), (7, qe (.return_) 1 8), (8, qe (.aload_n 0) 1 9), (9, qx (.getfield 29) 3 12 5 0 2), (12, qx (.getfield 49) 3 15 6 2 0), (15, qw (.iconst 2) 1 16 2), (16, qx (.if_icmp .ne 24) 3 19 40 0 0), (19, qe (.aload_n 0) 1 20), (20, qe (.aload_n 0) 1 21), (21, qx (.getfield 29) 3 24 5 0 2)]), (52, [(24, qx (.getfield 187) 3 27 6 3 0), (27, qx (.invokevirtual 168) 3 30 53 2 5), (30, qe (.aload_n 0) 1 31), (31, qx (.getfield 29) 3 34 5 0 2), (34, qx (.invokevirtual 81) 3 37 65 1 6), (37, qx (.goto 126) 3 40 163 0 0), (40, qe (.aload_n 0) 1 41), (41, qx (.getfield 29) 3 44 5 0 2), (44, qw (.bipush 40) 2 46 40), (46, qx (.invokevirtual 177) 3 49 69 2 6), (49, qx (.ifCond .eq 23) 3 52 72 0 0), (52, qe (.aload_n 0) 1 53)]), (79, [(53, qx (.invokevirtual 174) 3 56 52 1 5), (56, qx (.ifCond .eq 107) 3 59 163 0 0), (59, qe (.aload_n 0) 1 60), (60, qx (.invokevirtual 159) 3 63 57 1 5), (63, qe (.aload_n 0) 1 64), (64, qw (.bipush 41) 2 66 41), (66, qx (.invokevirtual 181) 3 69 54 2 5), (69, qx (.goto 94) 3 72 163 0 0), (72, qe (.aload_n 0) 1 73), (73, qx (.getfield 29) 3 76 5 0 2), (76, qx (.getfield 65) 3 79 6 4 0), (79, qw (.bipush 20) 2 81 20)]), (108, [(81, qx (.if_icmp .eq 27) 3 84 108 0 0), (84, qe (.aload_n 0) 1 85), (85, qx (.getfield 29) 3 88 5 0 2), (88, qx (.getfield 65) 3 91 6 4 0), (91, qw (.bipush 21) 2 93 21), (93, qx (.if_icmp .eq 15) 3 96 108 0 0), (96, qe (.aload_n 0) 1 97), (97, qx (.getfield 29) 3 100 5 0 2), (100, qx (.getfield 65) 3 103 6 4 0), (103, qw (.bipush 15) 2 105 15), (105, qx (.if_icmp .ne 17) 3 108 122 0 0), (108, qe (.aload_n 0) 1 109)]), (136, [(109, qe (.aload_n 0) 1 110), (110, qx (.getfield 29) 3 113 5 0 2), (113, qx (.getfield 65) 3 116 6 4 0), (116, qx (.invokevirtual 199) 3 119 60 2 5), (119, qx (.goto 44) 3 122 163 0 0), (122, qe (.aload_n 0) 1 123), (123, qe (.aload_n 0) 1 124), (124, qx (.getfield 29) 3 127 5 0 2), (127, qx (.getfield 65) 3 130 6 4 0), (130, qx (.invokevirtual 202) 3 133 61 2 5), (133, qx (.ifCond .eq 26) 3 136 159 0 0), (136, qe (.aload_n 0) 1 137)]), (160, [(137, qw (.iconst (-1)) 1 138 (-1)), (138, qe (.aload_n 0) 1 139), (139, qx (.getfield 29) 3 142 5 0 2), (142, qx (.getfield 65) 3 145 6 4 0), (145, qe (.isub) 1 146), (146, qx (.invokevirtual 168) 3 149 53 2 5), (149, qe (.aload_n 0) 1 150), (150, qx (.getfield 29) 3 153 5 0 2), (153, qx (.invokevirtual 81) 3 156 65 1 6), (156, qx (.goto 7) 3 159 163 0 0), (159, qe (.aload_n 0) 1 160), (160, qx (.invokevirtual 91) 3 163 43 1 5)]), (163, [(163, qe (.return_) 1 164)])]
noncomputable def mt_59 : pj_T := ((⟨"PegCoats$Reading", "readPart", "()V"⟩, prog_7_method_16_code, 1, none), (5, false), mc_59)
set_option maxRecDepth 100000 in
/-- 60: PegCoats$Reading.readChoice(I)V -/
noncomputable def mc_60 : pj_M := [(24, [(0, qe (.aload_n 0) 1 1), (1, qx (.getfield 29) 3 4 5 0 2), (4, qx (.invokevirtual 81) 3 7 65 1 6), (7, qe (.aload_n 0) 1 8), (8, qx (.getfield 29) 3 11 5 0 2), (11, qw (.bipush 40) 2 13 40), (13, qx (.invokevirtual 177) 3 16 69 2 6), (16, qx (.ifCond .ne 8) 3 19 24 0 0), (19, qe (.aload_n 0) 1 20), (20, qx (.invokevirtual 91) 3 23 43 1 5), (23, qe (.return_) 1 24), (24, qe (.aload_n 0) 1 25)]), (48, [(25, qx (.invokevirtual 174) 3 28 52 1 5), (28, qx (.ifCond .ne 4) 3 31 32 0 0), (31, qe (.return_) 1 32), (32, qe (.iload_n 1) 1 33), (33, qw (.bipush 15) 2 35 15), (35, qx (.if_icmp .ne 13) 3 38 48 0 0), (38, qe (.aload_n 0) 1 39), (39, qx (.invokevirtual 156) 3 42 49 1 5), (42, qe (.aload_n 0) 1 43), (43, qw (.bipush 44) 2 45 44), (45, qx (.invokevirtual 94) 3 48 55 2 5), (48, qe (.aload_n 0) 1 49)]), (71, [(49, qx (.invokevirtual 159) 3 52 57 1 5), (52, qe (.aload_n 0) 1 53), (53, qw (.bipush 44) 2 55 44), (55, qx (.invokevirtual 94) 3 58 55 2 5), (58, qe (.aload_n 0) 1 59), (59, qx (.invokevirtual 159) 3 62 57 1 5), (62, qe (.aload_n 0) 1 63), (63, qw (.bipush 41) 2 65 41), (65, qx (.invokevirtual 181) 3 68 54 2 5), (68, qe (.aload_n 0) 1 69), (69, qw (.bipush (-30)) 2 71 (-30)), (71, qe (.iload_n 1) 1 72)]), (76, [(72, qe (.isub) 1 73), (73, qx (.invokevirtual 168) 3 76 53 2 5), (76, qe (.return_) 1 77)])]
noncomputable def mt_60 : pj_T := ((⟨"PegCoats$Reading", "readChoice", "(I)V"⟩, prog_7_method_17_code, 2, none), (5, false), mc_60)
set_option maxRecDepth 100000 in
/-- 61: PegCoats$Reading.isValue(I)Z -/
noncomputable def mc_61 : pj_M := [(91, [(0, qe (.iload_n 1) 1 1), (1, qs (.tableswitch 104 0 14 #[77, 75, 77, 104, 75, 104, 104, 104, 104, 104, 104, 75, 77, 90, 90]) 75 76 105 [(0, 78), (1, 76), (2, 78), (3, 105), (4, 76), (5, 105), (6, 105), (7, 105), (8, 105), (9, 105), (10, 105), (11, 76), (12, 78), (13, 91), (14, 91)]), (76, qw (.iconst 1) 1 77 1), (77, qe (.ireturn) 1 78), (78, qe (.aload_n 0) 1 79), (79, qx (.getfield 21) 3 82 5 5 0), (82, qx (.ifCond .ne 7) 3 85 89 0 0), (85, qw (.iconst 1) 1 86 1), (86, qx (.goto 4) 3 89 90 0 0), (89, qw (.iconst 0) 1 90 0), (90, qe (.ireturn) 1 91), (91, qe (.aload_n 0) 1 92)]), (106, [(92, qx (.getfield 21) 3 95 5 5 0), (95, qw (.iconst 2) 1 96 2), (96, qx (.if_icmp .ne 7) 3 99 103 0 0), (99, qw (.iconst 1) 1 100 1), (100, qx (.goto 4) 3 103 104 0 0), (103, qw (.iconst 0) 1 104 0), (104, qe (.ireturn) 1 105), (105, qw (.iconst 0) 1 106 0), (106, qe (.ireturn) 1 107)])]
noncomputable def mt_61 : pj_T := ((⟨"PegCoats$Reading", "isValue", "(I)Z"⟩, prog_7_method_18_code, 2, (some .boolean)), (5, true), mc_61)
set_option maxRecDepth 100000 in
/-- 62: PegCoats$Reading.atProductSign()Z -/
noncomputable def mc_62 : pj_M := [(25, [(0, qe (.aload_n 0) 1 1), (1, qx (.getfield 29) 3 4 5 0 2), (4, qw (.bipush 42) 2 6 42), (6, qx (.invokevirtual 177) 3 9 69 2 6), (9, qx (.ifCond .ne 27) 3 12 36 0 0), (12, qe (.aload_n 0) 1 13), (13, qx (.getfield 29) 3 16 5 0 2), (16, qw (.bipush 47) 2 18 47), (18, qx (.invokevirtual 177) 3 21 69 2 6), (21, qx (.ifCond .ne 15) 3 24 36 0 0), (24, qe (.aload_n 0) 1 25), (25, qx (.getfield 29) 3 28 5 0 2)]), (41, [(28, qw (.bipush 37) 2 30 37), (30, qx (.invokevirtual 177) 3 33 69 2 6), (33, qx (.ifCond .eq 7) 3 36 40 0 0), (36, qw (.iconst 1) 1 37 1), (37, qx (.goto 4) 3 40 41 0 0), (40, qw (.iconst 0) 1 41 0), (41, qe (.ireturn) 1 42)])]
noncomputable def mt_62 : pj_T := ((⟨"PegCoats$Reading", "atProductSign", "()Z"⟩, prog_7_method_15_code, 1, (some .boolean)), (5, true), mc_62)
set_option maxRecDepth 100000 in
/-- 63: PegCoats$Scanner.<init>(LPegCoats$Tape;)V -/
noncomputable def mc_63 : pj_M := [(19, [(0, qe (.aload_n 0) 1 1), (1, qx (.invokespecial 3) 3 4 1000 1 0), (4, qe (.aload_n 0) 1 5), (5, qw (.bipush 22) 2 7 22), (7, qx (.newarray .int) 2 9 13 0 0), (9, qx (.putfield 9) 3 12 6 1 2), (12, qe (.aload_n 0) 1 13), (13, qw (.iconst 0) 1 14 0), (14, qx (.putfield 15) 3 17 6 2 0), (17, qe (.aload_n 0) 1 18), (18, qw (.iconst 0) 1 19 0), (19, qx (.putfield 19) 3 22 6 3 0)]), (39, [(22, qe (.aload_n 0) 1 23), (23, qw (.iconst (-1)) 1 24 (-1)), (24, qx (.putfield 22) 3 27 6 4 0), (27, qe (.aload_n 0) 1 28), (28, qw (.iconst 0) 1 29 0), (29, qx (.putfield 25) 3 32 6 5 0), (32, qe (.aload_n 0) 1 33), (33, qw (.iconst 0) 1 34 0), (34, qx (.putfield 28) 3 37 6 6 0), (37, qe (.aload_n 0) 1 38), (38, qw (.iconst 0) 1 39 0), (39, qx (.putfield 31) 3 42 6 7 0)]), (58, [(42, qe (.aload_n 0) 1 43), (43, qe (.aload_n 1) 1 44), (44, qx (.putfield 34) 3 47 6 0 2), (47, qw (.iconst 0) 1 48 0), (48, qe (.istore_n 2) 1 49), (49, qe (.iload_n 2) 1 50), (50, qw (.bipush 22) 2 52 22), (52, qx (.if_icmp .ge 71) 3 55 123 0 0), (55, qw (.iconst 0) 1 56 0), (56, qe (.istore_n 3) 1 57), (57, qw (.iconst 0) 1 58 0), (58, qe (.istore 4) 2 60)]), (81, [(60, qe (.iload 4) 2 62), (62, qw (.bipush 6) 2 64 6), (64, qx (.if_icmp .ge 46) 3 67 110 0 0), (67, qx (.ldc 38) 2 69 0 0 1), (69, qe (.iload_n 2) 1 70), (70, qw (.bipush 6) 2 72 6), (72, qe (.imul) 1 73), (73, qe (.iload 4) 2 75), (75, qe (.iadd) 1 76), (76, qx (.invokevirtual 40) 3 79 1005 2 0), (79, qe (.istore 5) 2 81), (81, qe (.iload_n 3) 1 82)]), (101, [(82, qw (.iconst 5) 1 83 5), (83, qe (.ishl) 1 84), (84, qe (.iload 5) 2 86), (86, qw (.bipush 32) 2 88 32), (88, qx (.if_icmp .ne 7) 3 91 95 0 0), (91, qw (.iconst 0) 1 92 0), (92, qx (.goto 10) 3 95 102 0 0), (95, qe (.iload 5) 2 97), (97, qw (.bipush 97) 2 99 97), (99, qe (.isub) 1 100), (100, qw (.iconst 1) 1 101 1), (101, qe (.iadd) 1 102)]), (123, [(102, qe (.ior) 1 103), (103, qe (.istore_n 3) 1 104), (104, qw (.iinc 4 1) 3 107 1), (107, qx (.goto (-47)) 3 110 60 0 0), (110, qe (.aload_n 0) 1 111), (111, qx (.getfield 9) 3 114 6 1 2), (114, qe (.iload_n 2) 1 115), (115, qe (.iload_n 3) 1 116), (116, qe (.iastore) 1 117), (117, qw (.iinc 2 1) 3 120 1), (120, qx (.goto (-71)) 3 123 49 0 0), (123, qe (.return_) 1 124)])]
noncomputable def mt_63 : pj_T := ((⟨"PegCoats$Scanner", "<init>", "(LPegCoats$Tape;)V"⟩, prog_8_method_1_code, 6, none), (6, false), mc_63)
set_option maxRecDepth 100000 in
/-- 64: PegCoats$Scanner.begin()V -/
noncomputable def mc_64 : pj_M := [(14, [(0, qe (.aload_n 0) 1 1), (1, qw (.iconst 3) 1 2 3), (2, qx (.putfield 15) 3 5 6 2 0), (5, qe (.aload_n 0) 1 6), (6, qw (.iconst 0) 1 7 0), (7, qx (.putfield 31) 3 10 6 7 0), (10, qe (.aload_n 0) 1 11), (11, qx (.invokevirtual 46) 3 14 65 1 6), (14, qe (.return_) 1 15)])]
noncomputable def mt_64 : pj_T := ((⟨"PegCoats$Scanner", "begin", "()V"⟩, prog_8_method_2_code, 1, none), (6, false), mc_64)
set_option maxRecDepth 100000 in
/-- 65: PegCoats$Scanner.advance()V -/
noncomputable def mc_65 : pj_M := [(23, [(0, qe (.aload_n 0) 1 1), (1, qx (.getfield 31) 3 4 6 7 0), (4, qe (.istore_n 1) 1 5), (5, qe (.aload_n 0) 1 6), (6, qx (.getfield 31) 3 9 6 7 0), (9, qe (.aload_n 0) 1 10), (10, qx (.getfield 34) 3 13 6 0 2), (13, qx (.getfield 49) 3 16 8 1 0), (16, qx (.if_icmp .ge 33) 3 19 49 0 0), (19, qe (.aload_n 0) 1 20), (20, qx (.getfield 34) 3 23 6 0 2), (23, qe (.aload_n 0) 1 24)]), (49, [(24, qx (.getfield 31) 3 27 6 7 0), (27, qx (.invokevirtual 54) 3 30 85 2 8), (30, qx (.invokestatic 58) 3 33 66 1 0), (33, qx (.ifCond .eq 16) 3 36 49 0 0), (36, qe (.aload_n 0) 1 37), (37, qe (.dup) 1 38), (38, qx (.getfield 31) 3 41 6 7 0), (41, qw (.iconst 1) 1 42 1), (42, qe (.iadd) 1 43), (43, qx (.putfield 31) 3 46 6 7 0), (46, qx (.goto (-41)) 3 49 5 0 0), (49, qe (.aload_n 0) 1 50)]), (73, [(50, qx (.getfield 31) 3 53 6 7 0), (53, qe (.iload_n 1) 1 54), (54, qx (.if_icmp .ne 23) 3 57 77 0 0), (57, qe (.aload_n 0) 1 58), (58, qx (.getfield 15) 3 61 6 2 0), (61, qw (.iconst 1) 1 62 1), (62, qx (.if_icmp .eq 11) 3 65 73 0 0), (65, qe (.aload_n 0) 1 66), (66, qx (.getfield 15) 3 69 6 2 0), (69, qw (.iconst 2) 1 70 2), (70, qx (.if_icmp .ne 7) 3 73 77 0 0), (73, qw (.iconst 1) 1 74 1)]), (95, [(74, qx (.goto 4) 3 77 78 0 0), (77, qw (.iconst 0) 1 78 0), (78, qe (.istore_n 2) 1 79), (79, qe (.aload_n 0) 1 80), (80, qe (.aload_n 0) 1 81), (81, qx (.getfield 31) 3 84 6 7 0), (84, qx (.putfield 25) 3 87 6 5 0), (87, qe (.aload_n 0) 1 88), (88, qe (.aload_n 0) 1 89), (89, qx (.getfield 31) 3 92 6 7 0), (92, qx (.putfield 28) 3 95 6 6 0), (95, qe (.aload_n 0) 1 96)]), (117, [(96, qw (.iconst (-1)) 1 97 (-1)), (97, qx (.putfield 22) 3 100 6 4 0), (100, qe (.aload_n 0) 1 101), (101, qe (.aload_n 0) 1 102), (102, qx (.getfield 34) 3 105 6 0 2), (105, qe (.aload_n 0) 1 106), (106, qx (.getfield 31) 3 109 6 7 0), (109, qx (.invokevirtual 54) 3 112 85 2 8), (112, qx (.putfield 19) 3 115 6 3 0), (115, qe (.aload_n 0) 1 116), (116, qe (.aload_n 0) 1 117), (117, qx (.getfield 19) 3 120 6 3 0)]), (143, [(120, qx (.invokestatic 62) 3 123 67 1 0), (123, qx (.putfield 15) 3 126 6 2 0), (126, qe (.aload_n 0) 1 127), (127, qx (.getfield 15) 3 130 6 2 0), (130, qw (.iconst 1) 1 131 1), (131, qx (.if_icmp .eq 22) 3 134 153 0 0), (134, qe (.aload_n 0) 1 135), (135, qx (.getfield 15) 3 138 6 2 0), (138, qw (.iconst 2) 1 139 2), (139, qx (.if_icmp .eq 14) 3 142 153 0 0), (142, qe (.aload_n 0) 1 143), (143, qe (.dup) 1 144)]), (166, [(144, qx (.getfield 31) 3 147 6 7 0), (147, qw (.iconst 1) 1 148 1), (148, qe (.iadd) 1 149), (149, qx (.putfield 31) 3 152 6 7 0), (152, qe (.return_) 1 153), (153, qe (.aload_n 0) 1 154), (154, qx (.getfield 15) 3 157 6 2 0), (157, qw (.iconst 1) 1 158 1), (158, qx (.if_icmp .ne 8) 3 161 166 0 0), (161, qw (.bipush 6) 2 163 6), (163, qx (.goto 4) 3 166 167 0 0), (166, qw (.iconst 4) 1 167 4)]), (188, [(167, qe (.istore_n 3) 1 168), (168, qe (.aload_n 0) 1 169), (169, qw (.iconst 0) 1 170 0), (170, qx (.putfield 19) 3 173 6 3 0), (173, qe (.aload_n 0) 1 174), (174, qx (.getfield 31) 3 177 6 7 0), (177, qe (.aload_n 0) 1 178), (178, qx (.getfield 34) 3 181 6 0 2), (181, qx (.getfield 49) 3 184 8 1 0), (184, qx (.if_icmp .ge 110) 3 187 294 0 0), (187, qe (.aload_n 0) 1 188), (188, qx (.getfield 31) 3 191 6 7 0)]), (214, [(191, qe (.aload_n 0) 1 192), (192, qx (.getfield 25) 3 195 6 5 0), (195, qe (.isub) 1 196), (196, qe (.iload_n 3) 1 197), (197, qx (.if_icmp .gt 97) 3 200 294 0 0), (200, qe (.aload_n 0) 1 201), (201, qx (.getfield 34) 3 204 6 0 2), (204, qe (.aload_n 0) 1 205), (205, qx (.getfield 31) 3 208 6 7 0), (208, qx (.invokevirtual 54) 3 211 85 2 8), (211, qx (.invokestatic 62) 3 214 67 1 0), (214, qe (.aload_n 0) 1 215)]), (236, [(215, qx (.getfield 15) 3 218 6 2 0), (218, qx (.if_icmp .ne 76) 3 221 294 0 0), (221, qe (.aload_n 0) 1 222), (222, qe (.aload_n 0) 1 223), (223, qx (.getfield 15) 3 226 6 2 0), (226, qw (.iconst 1) 1 227 1), (227, qx (.if_icmp .ne 29) 3 230 256 0 0), (230, qe (.aload_n 0) 1 231), (231, qx (.getfield 19) 3 234 6 3 0), (234, qw (.iconst 5) 1 235 5), (235, qe (.ishl) 1 236), (236, qe (.aload_n 0) 1 237)]), (257, [(237, qx (.getfield 34) 3 240 6 0 2), (240, qe (.aload_n 0) 1 241), (241, qx (.getfield 31) 3 244 6 7 0), (244, qx (.invokevirtual 54) 3 247 85 2 8), (247, qw (.bipush 97) 2 249 97), (249, qe (.isub) 1 250), (250, qw (.iconst 1) 1 251 1), (251, qe (.iadd) 1 252), (252, qe (.ior) 1 253), (253, qx (.goto 25) 3 256 278 0 0), (256, qe (.aload_n 0) 1 257), (257, qx (.getfield 19) 3 260 6 3 0)]), (281, [(260, qw (.bipush 10) 2 262 10), (262, qe (.imul) 1 263), (263, qe (.aload_n 0) 1 264), (264, qx (.getfield 34) 3 267 6 0 2), (267, qe (.aload_n 0) 1 268), (268, qx (.getfield 31) 3 271 6 7 0), (271, qx (.invokevirtual 54) 3 274 85 2 8), (274, qe (.iadd) 1 275), (275, qw (.bipush 48) 2 277 48), (277, qe (.isub) 1 278), (278, qx (.putfield 19) 3 281 6 3 0), (281, qe (.aload_n 0) 1 282)]), (303, [(282, qe (.dup) 1 283), (283, qx (.getfield 31) 3 286 6 7 0), (286, qw (.iconst 1) 1 287 1), (287, qe (.iadd) 1 288), (288, qx (.putfield 31) 3 291 6 7 0), (291, qx (.goto (-118)) 3 294 173 0 0), (294, qe (.aload_n 0) 1 295), (295, qx (.getfield 31) 3 298 6 7 0), (298, qe (.aload_n 0) 1 299), (299, qx (.getfield 25) 3 302 6 5 0), (302, qe (.isub) 1 303), (303, qe (.istore 4) 2 305)]), (327, [(305, qe (.iload_n 2) 1 306), (306, qx (.ifCond .ne 9) 3 309 315 0 0), (309, qe (.iload 4) 2 311), (311, qe (.iload_n 3) 1 312), (312, qx (.if_icmp .le 32) 3 315 344 0 0), (315, qe (.aload_n 0) 1 316), (316, qe (.iload_n 2) 1 317), (317, qx (.ifCond .eq 10) 3 320 327 0 0), (320, qe (.aload_n 0) 1 321), (321, qx (.getfield 25) 3 324 6 5 0), (324, qx (.goto 9) 3 327 333 0 0), (327, qe (.aload_n 0) 1 328)]), (349, [(328, qx (.getfield 25) 3 331 6 5 0), (331, qe (.iload_n 3) 1 332), (332, qe (.iadd) 1 333), (333, qx (.putfield 28) 3 336 6 6 0), (336, qe (.aload_n 0) 1 337), (337, qw (.iconst 4) 1 338 4), (338, qx (.putfield 15) 3 341 6 2 0), (341, qx (.goto 39) 3 344 380 0 0), (344, qe (.aload_n 0) 1 345), (345, qx (.getfield 15) 3 348 6 2 0), (348, qw (.iconst 1) 1 349 1), (349, qx (.if_icmp .ne 31) 3 352 380 0 0)]), (369, [(352, qe (.aload_n 0) 1 353), (353, qe (.dup) 1 354), (354, qx (.getfield 19) 3 357 6 3 0), (357, qw (.iconst 5) 1 358 5), (358, qw (.bipush 6) 2 360 6), (360, qe (.iload 4) 2 362), (362, qe (.isub) 1 363), (363, qe (.imul) 1 364), (364, qe (.ishl) 1 365), (365, qx (.putfield 19) 3 368 6 3 0), (368, qe (.aload_n 0) 1 369), (369, qe (.aload_n 0) 1 370)]), (380, [(370, qe (.aload_n 0) 1 371), (371, qx (.getfield 19) 3 374 6 3 0), (374, qx (.invokevirtual 65) 3 377 68 2 6), (377, qx (.putfield 22) 3 380 6 4 0), (380, qe (.return_) 1 381)])]
noncomputable def mt_65 : pj_T := ((⟨"PegCoats$Scanner", "advance", "()V"⟩, prog_8_method_3_code, 5, none), (6, false), mc_65)
end
section
set_option maxRecDepth 100000 in
/-- 66: PegCoats$Scanner.isBlank(I)Z -/
noncomputable def mc_66 : pj_M := [(17, [(0, qe (.iload_n 0) 1 1), (1, qw (.bipush 10) 2 3 10), (3, qx (.if_icmp .eq 9) 3 6 12 0 0), (6, qe (.iload_n 0) 1 7), (7, qw (.bipush 32) 2 9 32), (9, qx (.if_icmp .ne 7) 3 12 16 0 0), (12, qw (.iconst 1) 1 13 1), (13, qx (.goto 4) 3 16 17 0 0), (16, qw (.iconst 0) 1 17 0), (17, qe (.ireturn) 1 18)])]
noncomputable def mt_66 : pj_T := ((⟨"PegCoats$Scanner", "isBlank", "(I)Z"⟩, prog_8_method_6_code, 1, (some .boolean)), (6, true), mc_66)
set_option maxRecDepth 100000 in
/-- 67: PegCoats$Scanner.kindOf(I)I -/
noncomputable def mc_67 : pj_M := [(19, [(0, qe (.iload_n 0) 1 1), (1, qw (.iconst (-1)) 1 2 (-1)), (2, qx (.if_icmp .ne 5) 3 5 7 0 0), (5, qw (.iconst 0) 1 6 0), (6, qe (.ireturn) 1 7), (7, qe (.iload_n 0) 1 8), (8, qw (.bipush 97) 2 10 97), (10, qx (.if_icmp .lt 11) 3 13 21 0 0), (13, qe (.iload_n 0) 1 14), (14, qw (.bipush 122) 2 16 122), (16, qx (.if_icmp .gt 5) 3 19 21 0 0), (19, qw (.iconst 1) 1 20 1)]), (38, [(20, qe (.ireturn) 1 21), (21, qe (.iload_n 0) 1 22), (22, qw (.bipush 48) 2 24 48), (24, qx (.if_icmp .lt 13) 3 27 37 0 0), (27, qe (.iload_n 0) 1 28), (28, qw (.bipush 57) 2 30 57), (30, qx (.if_icmp .gt 7) 3 33 37 0 0), (33, qw (.iconst 2) 1 34 2), (34, qx (.goto 4) 3 37 38 0 0), (37, qw (.iconst 3) 1 38 3), (38, qe (.ireturn) 1 39)])]
noncomputable def mt_67 : pj_T := ((⟨"PegCoats$Scanner", "kindOf", "(I)I"⟩, prog_8_method_7_code, 1, (some .int)), (6, false), mc_67)
set_option maxRecDepth 100000 in
/-- 68: PegCoats$Scanner.ownWord(I)I -/
noncomputable def mc_68 : pj_M := [(18, [(0, qw (.iconst 0) 1 1 0), (1, qe (.istore_n 2) 1 2), (2, qe (.iload_n 2) 1 3), (3, qw (.bipush 22) 2 5 22), (5, qx (.if_icmp .ge 21) 3 8 26 0 0), (8, qe (.aload_n 0) 1 9), (9, qx (.getfield 9) 3 12 6 1 2), (12, qe (.iload_n 2) 1 13), (13, qe (.iaload) 1 14), (14, qe (.iload_n 1) 1 15), (15, qx (.if_icmp .ne 5) 3 18 20 0 0), (18, qe (.iload_n 2) 1 19)]), (27, [(19, qe (.ireturn) 1 20), (20, qw (.iinc 2 1) 3 23 1), (23, qx (.goto (-21)) 3 26 2 0 0), (26, qw (.iconst (-1)) 1 27 (-1)), (27, qe (.ireturn) 1 28)])]
noncomputable def mt_68 : pj_T := ((⟨"PegCoats$Scanner", "ownWord", "(I)I"⟩, prog_8_method_4_code, 3, (some .int)), (6, false), mc_68)
set_option maxRecDepth 100000 in
/-- 69: PegCoats$Scanner.isSign(C)Z -/
noncomputable def mc_69 : pj_M := [(21, [(0, qe (.aload_n 0) 1 1), (1, qx (.getfield 15) 3 4 6 2 0), (4, qw (.iconst 3) 1 5 3), (5, qx (.if_icmp .ne 15) 3 8 20 0 0), (8, qe (.aload_n 0) 1 9), (9, qx (.getfield 19) 3 12 6 3 0), (12, qe (.iload_n 1) 1 13), (13, qx (.if_icmp .ne 7) 3 16 20 0 0), (16, qw (.iconst 1) 1 17 1), (17, qx (.goto 4) 3 20 21 0 0), (20, qw (.iconst 0) 1 21 0), (21, qe (.ireturn) 1 22)])]
noncomputable def mt_69 : pj_T := ((⟨"PegCoats$Scanner", "isSign", "(C)Z"⟩, prog_8_method_5_code, 2, (some .boolean)), (6, true), mc_69)
set_option maxRecDepth 100000 in
/-- 70: PegCoats$State.<init>()V -/
noncomputable def mc_70 : pj_M := [(21, [(0, qe (.aload_n 0) 1 1), (1, qx (.invokespecial 3) 3 4 1000 1 0), (4, qe (.aload_n 0) 1 5), (5, qw (.bipush 8) 2 7 8), (7, qx (.newarray .int) 2 9 13 0 0), (9, qx (.putfield 9) 3 12 7 0 2), (12, qe (.aload_n 0) 1 13), (13, qw (.bipush 8) 2 15 8), (15, qx (.newarray .boolean) 2 17 15 0 0), (17, qx (.putfield 15) 3 20 7 1 2), (20, qe (.aload_n 0) 1 21), (21, qw (.bipush 7) 2 23 7)]), (45, [(23, qx (.newarray .int) 2 25 13 0 0), (25, qx (.putfield 19) 3 28 7 2 2), (28, qe (.aload_n 0) 1 29), (29, qw (.bipush 7) 2 31 7), (31, qx (.newarray .int) 2 33 13 0 0), (33, qx (.putfield 22) 3 36 7 3 2), (36, qe (.aload_n 0) 1 37), (37, qw (.bipush 7) 2 39 7), (39, qx (.newarray .int) 2 41 13 0 0), (41, qx (.putfield 25) 3 44 7 4 2), (44, qe (.aload_n 0) 1 45), (45, qw (.bipush 7) 2 47 7)]), (67, [(47, qx (.newarray .int) 2 49 13 0 0), (49, qx (.putfield 28) 3 52 7 5 2), (52, qe (.aload_n 0) 1 53), (53, qw (.bipush 7) 2 55 7), (55, qx (.newarray .boolean) 2 57 15 0 0), (57, qx (.putfield 31) 3 60 7 6 2), (60, qe (.aload_n 0) 1 61), (61, qw (.iconst 0) 1 62 0), (62, qx (.putfield 34) 3 65 7 7 0), (65, qe (.aload_n 0) 1 66), (66, qw (.iconst 0) 1 67 0), (67, qx (.putfield 38) 3 70 7 8 0)]), (70, [(70, qe (.return_) 1 71)])]
noncomputable def mt_70 : pj_T := ((⟨"PegCoats$State", "<init>", "()V"⟩, prog_9_method_1_code, 1, none), (7, false), mc_70)
set_option maxRecDepth 100000 in
/-- 71: PegCoats$State.begin(LPegCoats$Works;)V -/
noncomputable def mc_71 : pj_M := [(17, [(0, qe (.aload_n 0) 1 1), (1, qw (.iconst 0) 1 2 0), (2, qx (.putfield 34) 3 5 7 7 0), (5, qe (.aload_n 0) 1 6), (6, qw (.iconst 0) 1 7 0), (7, qx (.putfield 38) 3 10 7 8 0), (10, qw (.iconst 0) 1 11 0), (11, qe (.istore_n 2) 1 12), (12, qe (.iload_n 2) 1 13), (13, qe (.aload_n 1) 1 14), (14, qx (.getfield 41) 3 17 10 12 0), (17, qx (.if_icmp .ge 36) 3 20 53 0 0)]), (37, [(20, qe (.aload_n 0) 1 21), (21, qx (.getfield 15) 3 24 7 1 2), (24, qe (.iload_n 2) 1 25), (25, qw (.iconst 0) 1 26 0), (26, qe (.bastore) 1 27), (27, qe (.aload_n 0) 1 28), (28, qx (.getfield 9) 3 31 7 0 2), (31, qe (.iload_n 2) 1 32), (32, qe (.aload_n 1) 1 33), (33, qe (.iload_n 2) 1 34), (34, qx (.invokevirtual 46) 3 37 99 2 10), (37, qw (.iconst (-1)) 1 38 (-1))]), (57, [(38, qx (.if_icmp .ne 7) 3 41 45 0 0), (41, qw (.iconst 0) 1 42 0), (42, qx (.goto 4) 3 45 46 0 0), (45, qw (.iconst 1) 1 46 1), (46, qe (.iastore) 1 47), (47, qw (.iinc 2 1) 3 50 1), (50, qx (.goto (-38)) 3 53 12 0 0), (53, qw (.iconst 0) 1 54 0), (54, qe (.istore_n 2) 1 55), (55, qe (.iload_n 2) 1 56), (56, qe (.aload_n 1) 1 57), (57, qx (.getfield 50) 3 60 10 13 0)]), (79, [(60, qx (.if_icmp .ge 59) 3 63 119 0 0), (63, qe (.aload_n 0) 1 64), (64, qx (.getfield 19) 3 67 7 2 2), (67, qe (.iload_n 2) 1 68), (68, qe (.aload_n 1) 1 69), (69, qx (.getfield 53) 3 72 10 4 2), (72, qe (.iload_n 2) 1 73), (73, qe (.iaload) 1 74), (74, qe (.iastore) 1 75), (75, qe (.aload_n 0) 1 76), (76, qx (.getfield 22) 3 79 7 3 2), (79, qe (.iload_n 2) 1 80)]), (97, [(80, qe (.aload_n 1) 1 81), (81, qx (.getfield 56) 3 84 10 5 2), (84, qe (.iload_n 2) 1 85), (85, qe (.iaload) 1 86), (86, qe (.iastore) 1 87), (87, qe (.aload_n 0) 1 88), (88, qx (.getfield 25) 3 91 7 4 2), (91, qe (.iload_n 2) 1 92), (92, qe (.aload_n 1) 1 93), (93, qx (.getfield 59) 3 96 10 6 2), (96, qe (.iload_n 2) 1 97), (97, qe (.iaload) 1 98)]), (113, [(98, qe (.iastore) 1 99), (99, qe (.aload_n 0) 1 100), (100, qx (.getfield 28) 3 103 7 5 2), (103, qe (.iload_n 2) 1 104), (104, qw (.iconst 0) 1 105 0), (105, qe (.iastore) 1 106), (106, qe (.aload_n 0) 1 107), (107, qx (.getfield 31) 3 110 7 6 2), (110, qe (.iload_n 2) 1 111), (111, qw (.iconst 1) 1 112 1), (112, qe (.bastore) 1 113), (113, qw (.iinc 2 1) 3 116 1)]), (119, [(116, qx (.goto (-61)) 3 119 55 0 0), (119, qe (.return_) 1 120)])]
noncomputable def mt_71 : pj_T := ((⟨"PegCoats$State", "begin", "(LPegCoats$Works;)V"⟩, prog_9_method_2_code, 3, none), (7, false), mc_71)
set_option maxRecDepth 100000 in
/-- 72: PegCoats$State.menThere(I)I -/
noncomputable def mc_72 : pj_M := [(15, [(0, qw (.iconst 0) 1 1 0), (1, qe (.istore_n 2) 1 2), (2, qw (.iconst 0) 1 3 0), (3, qe (.istore_n 3) 1 4), (4, qe (.iload_n 3) 1 5), (5, qe (.iload_n 1) 1 6), (6, qx (.if_icmp .ge 21) 3 9 27 0 0), (9, qe (.aload_n 0) 1 10), (10, qx (.getfield 31) 3 13 7 6 2), (13, qe (.iload_n 3) 1 14), (14, qe (.baload) 1 15), (15, qx (.ifCond .eq 6) 3 18 21 0 0)]), (28, [(18, qw (.iinc 2 1) 3 21 1), (21, qw (.iinc 3 1) 3 24 1), (24, qx (.goto (-20)) 3 27 4 0 0), (27, qe (.iload_n 2) 1 28), (28, qe (.ireturn) 1 29)])]
noncomputable def mt_72 : pj_T := ((⟨"PegCoats$State", "menThere", "(I)I"⟩, prog_9_method_5_code, 4, (some .int)), (7, false), mc_72)
set_option maxRecDepth 100000 in
/-- 73: PegCoats$State.wornCoats(I)I -/
noncomputable def mc_73 : pj_M := [(15, [(0, qw (.iconst 0) 1 1 0), (1, qe (.istore_n 2) 1 2), (2, qw (.iconst 0) 1 3 0), (3, qe (.istore_n 3) 1 4), (4, qe (.iload_n 3) 1 5), (5, qe (.iload_n 1) 1 6), (6, qx (.if_icmp .ge 30) 3 9 36 0 0), (9, qe (.aload_n 0) 1 10), (10, qx (.getfield 25) 3 13 7 4 2), (13, qe (.iload_n 3) 1 14), (14, qe (.iaload) 1 15), (15, qw (.iconst (-1)) 1 16 (-1))]), (33, [(16, qx (.if_icmp .eq 14) 3 19 30 0 0), (19, qe (.iload_n 2) 1 20), (20, qw (.iconst 1) 1 21 1), (21, qe (.aload_n 0) 1 22), (22, qx (.getfield 25) 3 25 7 4 2), (25, qe (.iload_n 3) 1 26), (26, qe (.iaload) 1 27), (27, qe (.ishl) 1 28), (28, qe (.ior) 1 29), (29, qe (.istore_n 2) 1 30), (30, qw (.iinc 3 1) 3 33 1), (33, qx (.goto (-29)) 3 36 4 0 0)]), (37, [(36, qe (.iload_n 2) 1 37), (37, qe (.ireturn) 1 38)])]
noncomputable def mt_73 : pj_T := ((⟨"PegCoats$State", "wornCoats", "(I)I"⟩, prog_9_method_7_code, 4, (some .int)), (7, false), mc_73)
set_option maxRecDepth 100000 in
/-- 74: PegCoats$State.peggedCoats(LPegCoats$Works;)I -/
noncomputable def mc_74 : pj_M := [(17, [(0, qw (.iconst 0) 1 1 0), (1, qe (.istore_n 2) 1 2), (2, qw (.iconst 0) 1 3 0), (3, qe (.istore_n 3) 1 4), (4, qe (.iload_n 3) 1 5), (5, qe (.aload_n 1) 1 6), (6, qx (.getfield 41) 3 9 10 12 0), (9, qx (.if_icmp .ge 24) 3 12 33 0 0), (12, qe (.aload_n 0) 1 13), (13, qx (.getfield 15) 3 16 7 1 2), (16, qe (.iload_n 3) 1 17), (17, qe (.baload) 1 18)]), (35, [(18, qx (.ifCond .ne 9) 3 21 27 0 0), (21, qe (.iload_n 2) 1 22), (22, qw (.iconst 1) 1 23 1), (23, qe (.iload_n 3) 1 24), (24, qe (.ishl) 1 25), (25, qe (.ior) 1 26), (26, qe (.istore_n 2) 1 27), (27, qw (.iinc 3 1) 3 30 1), (30, qx (.goto (-26)) 3 33 4 0 0), (33, qe (.iload_n 2) 1 34), (34, qe (.aload_n 0) 1 35), (35, qe (.aload_n 1) 1 36)]), (45, [(36, qx (.getfield 50) 3 39 10 13 0), (39, qx (.invokevirtual 68) 3 42 73 2 7), (42, qw (.iconst (-1)) 1 43 (-1)), (43, qe (.ixor) 1 44), (44, qe (.iand) 1 45), (45, qe (.ireturn) 1 46)])]
noncomputable def mt_74 : pj_T := ((⟨"PegCoats$State", "peggedCoats", "(LPegCoats$Works;)I"⟩, prog_9_method_8_code, 4, (some .int)), (7, false), mc_74)
set_option maxRecDepth 100000 in
/-- 75: PegCoats$State.burntCoats(I)I -/
noncomputable def mc_75 : pj_M := [(15, [(0, qw (.iconst 0) 1 1 0), (1, qe (.istore_n 2) 1 2), (2, qw (.iconst 0) 1 3 0), (3, qe (.istore_n 3) 1 4), (4, qe (.iload_n 3) 1 5), (5, qe (.iload_n 1) 1 6), (6, qx (.if_icmp .ge 21) 3 9 27 0 0), (9, qe (.aload_n 0) 1 10), (10, qx (.getfield 15) 3 13 7 1 2), (13, qe (.iload_n 3) 1 14), (14, qe (.baload) 1 15), (15, qx (.ifCond .eq 6) 3 18 21 0 0)]), (28, [(18, qw (.iinc 2 1) 3 21 1), (21, qw (.iinc 3 1) 3 24 1), (24, qx (.goto (-20)) 3 27 4 0 0), (27, qe (.iload_n 2) 1 28), (28, qe (.ireturn) 1 29)])]
noncomputable def mt_75 : pj_T := ((⟨"PegCoats$State", "burntCoats", "(I)I"⟩, prog_9_method_6_code, 4, (some .int)), (7, false), mc_75)
set_option maxRecDepth 100000 in
/-- 76: PegCoats$State.wearer(II)I -/
noncomputable def mc_76 : pj_M := [(17, [(0, qw (.iconst 0) 1 1 0), (1, qe (.istore_n 3) 1 2), (2, qe (.iload_n 3) 1 3), (3, qe (.iload_n 2) 1 4), (4, qx (.if_icmp .ge 21) 3 7 25 0 0), (7, qe (.aload_n 0) 1 8), (8, qx (.getfield 25) 3 11 7 4 2), (11, qe (.iload_n 3) 1 12), (12, qe (.iaload) 1 13), (13, qe (.iload_n 1) 1 14), (14, qx (.if_icmp .ne 5) 3 17 19 0 0), (17, qe (.iload_n 3) 1 18)]), (26, [(18, qe (.ireturn) 1 19), (19, qw (.iinc 3 1) 3 22 1), (22, qx (.goto (-20)) 3 25 2 0 0), (25, qw (.iconst (-1)) 1 26 (-1)), (26, qe (.ireturn) 1 27)])]
noncomputable def mt_76 : pj_T := ((⟨"PegCoats$State", "wearer", "(II)I"⟩, prog_9_method_4_code, 4, (some .int)), (7, false), mc_76)
set_option maxRecDepth 100000 in
/-- 77: PegCoats$State.copyFrom(LPegCoats$State;)V -/
noncomputable def mc_77 : pj_M := [(18, [(0, qe (.aload_n 1) 1 1), (1, qx (.getfield 9) 3 4 7 0 2), (4, qw (.iconst 0) 1 5 0), (5, qe (.aload_n 0) 1 6), (6, qx (.getfield 9) 3 9 7 0 2), (9, qw (.iconst 0) 1 10 0), (10, qw (.bipush 8) 2 12 8), (12, qx (.invokestatic 62) 3 15 1004 5 0), (15, qw (.iconst 0) 1 16 0), (16, qe (.istore_n 2) 1 17), (17, qe (.iload_n 2) 1 18), (18, qw (.bipush 8) 2 20 8)]), (41, [(20, qx (.if_icmp .ge 21) 3 23 41 0 0), (23, qe (.aload_n 0) 1 24), (24, qx (.getfield 15) 3 27 7 1 2), (27, qe (.iload_n 2) 1 28), (28, qe (.aload_n 1) 1 29), (29, qx (.getfield 15) 3 32 7 1 2), (32, qe (.iload_n 2) 1 33), (33, qe (.baload) 1 34), (34, qe (.bastore) 1 35), (35, qw (.iinc 2 1) 3 38 1), (38, qx (.goto (-21)) 3 41 17 0 0), (41, qe (.aload_n 1) 1 42)]), (62, [(42, qx (.getfield 19) 3 45 7 2 2), (45, qw (.iconst 0) 1 46 0), (46, qe (.aload_n 0) 1 47), (47, qx (.getfield 19) 3 50 7 2 2), (50, qw (.iconst 0) 1 51 0), (51, qw (.bipush 7) 2 53 7), (53, qx (.invokestatic 62) 3 56 1004 5 0), (56, qe (.aload_n 1) 1 57), (57, qx (.getfield 22) 3 60 7 3 2), (60, qw (.iconst 0) 1 61 0), (61, qe (.aload_n 0) 1 62), (62, qx (.getfield 22) 3 65 7 3 2)]), (86, [(65, qw (.iconst 0) 1 66 0), (66, qw (.bipush 7) 2 68 7), (68, qx (.invokestatic 62) 3 71 1004 5 0), (71, qe (.aload_n 1) 1 72), (72, qx (.getfield 25) 3 75 7 4 2), (75, qw (.iconst 0) 1 76 0), (76, qe (.aload_n 0) 1 77), (77, qx (.getfield 25) 3 80 7 4 2), (80, qw (.iconst 0) 1 81 0), (81, qw (.bipush 7) 2 83 7), (83, qx (.invokestatic 62) 3 86 1004 5 0), (86, qe (.aload_n 1) 1 87)]), (106, [(87, qx (.getfield 28) 3 90 7 5 2), (90, qw (.iconst 0) 1 91 0), (91, qe (.aload_n 0) 1 92), (92, qx (.getfield 28) 3 95 7 5 2), (95, qw (.iconst 0) 1 96 0), (96, qw (.bipush 7) 2 98 7), (98, qx (.invokestatic 62) 3 101 1004 5 0), (101, qw (.iconst 0) 1 102 0), (102, qe (.istore_n 2) 1 103), (103, qe (.iload_n 2) 1 104), (104, qw (.bipush 7) 2 106 7), (106, qx (.if_icmp .ge 21) 3 109 127 0 0)]), (128, [(109, qe (.aload_n 0) 1 110), (110, qx (.getfield 31) 3 113 7 6 2), (113, qe (.iload_n 2) 1 114), (114, qe (.aload_n 1) 1 115), (115, qx (.getfield 31) 3 118 7 6 2), (118, qe (.iload_n 2) 1 119), (119, qe (.baload) 1 120), (120, qe (.bastore) 1 121), (121, qw (.iinc 2 1) 3 124 1), (124, qx (.goto (-21)) 3 127 103 0 0), (127, qe (.aload_n 0) 1 128), (128, qe (.aload_n 1) 1 129)]), (143, [(129, qx (.getfield 34) 3 132 7 7 0), (132, qx (.putfield 34) 3 135 7 7 0), (135, qe (.aload_n 0) 1 136), (136, qe (.aload_n 1) 1 137), (137, qx (.getfield 38) 3 140 7 8 0), (140, qx (.putfield 38) 3 143 7 8 0), (143, qe (.return_) 1 144)])]
noncomputable def mt_77 : pj_T := ((⟨"PegCoats$State", "copyFrom", "(LPegCoats$State;)V"⟩, prog_9_method_3_code, 3, none), (7, false), mc_77)
set_option maxRecDepth 100000 in
/-- 78: PegCoats$State.dress(II)V -/
noncomputable def mc_78 : pj_M := [(17, [(0, qe (.aload_n 0) 1 1), (1, qx (.getfield 25) 3 4 7 4 2), (4, qe (.iload_n 1) 1 5), (5, qe (.iload_n 2) 1 6), (6, qe (.iastore) 1 7), (7, qe (.iload_n 2) 1 8), (8, qw (.iconst (-1)) 1 9 (-1)), (9, qx (.if_icmp .eq 24) 3 12 33 0 0), (12, qe (.aload_n 0) 1 13), (13, qx (.getfield 9) 3 16 7 0 2), (16, qe (.iload_n 2) 1 17), (17, qe (.iaload) 1 18)]), (33, [(18, qw (.bipush 99) 2 20 99), (20, qx (.if_icmp .ge 13) 3 23 33 0 0), (23, qe (.aload_n 0) 1 24), (24, qx (.getfield 9) 3 27 7 0 2), (27, qe (.iload_n 2) 1 28), (28, qe (.dup2) 1 29), (29, qe (.iaload) 1 30), (30, qw (.iconst 1) 1 31 1), (31, qe (.iadd) 1 32), (32, qe (.iastore) 1 33), (33, qe (.return_) 1 34)])]
noncomputable def mt_78 : pj_T := ((⟨"PegCoats$State", "dress", "(II)V"⟩, prog_9_method_9_code, 3, none), (7, false), mc_78)
set_option maxRecDepth 100000 in
/-- 79: PegCoats$State.change(II)V -/
noncomputable def mc_79 : pj_M := [(15, [(0, qe (.aload_n 0) 1 1), (1, qx (.getfield 25) 3 4 7 4 2), (4, qe (.iload_n 1) 1 5), (5, qe (.iaload) 1 6), (6, qe (.istore_n 3) 1 7), (7, qe (.aload_n 0) 1 8), (8, qe (.iload_n 1) 1 9), (9, qe (.aload_n 0) 1 10), (10, qx (.getfield 25) 3 13 7 4 2), (13, qe (.iload_n 2) 1 14), (14, qe (.iaload) 1 15), (15, qx (.invokevirtual 71) 3 18 78 3 7)]), (24, [(18, qe (.aload_n 0) 1 19), (19, qe (.iload_n 2) 1 20), (20, qe (.iload_n 3) 1 21), (21, qx (.invokevirtual 71) 3 24 78 3 7), (24, qe (.return_) 1 25)])]
noncomputable def mt_79 : pj_T := ((⟨"PegCoats$State", "change", "(II)V"⟩, prog_9_method_10_code, 4, none), (7, false), mc_79)
set_option maxRecDepth 100000 in
/-- 80: PegCoats$State.burn(II)V -/
noncomputable def mc_80 : pj_M := [(15, [(0, qe (.aload_n 0) 1 1), (1, qx (.getfield 15) 3 4 7 1 2), (4, qe (.iload_n 1) 1 5), (5, qw (.iconst 1) 1 6 1), (6, qe (.bastore) 1 7), (7, qe (.aload_n 0) 1 8), (8, qe (.iload_n 1) 1 9), (9, qe (.iload_n 2) 1 10), (10, qx (.invokevirtual 75) 3 13 76 3 7), (13, qe (.istore_n 3) 1 14), (14, qe (.iload_n 3) 1 15), (15, qw (.iconst (-1)) 1 16 (-1))]), (26, [(16, qx (.if_icmp .eq 10) 3 19 26 0 0), (19, qe (.aload_n 0) 1 20), (20, qx (.getfield 25) 3 23 7 4 2), (23, qe (.iload_n 3) 1 24), (24, qw (.iconst (-1)) 1 25 (-1)), (25, qe (.iastore) 1 26), (26, qe (.return_) 1 27)])]
noncomputable def mt_80 : pj_T := ((⟨"PegCoats$State", "burn", "(II)V"⟩, prog_9_method_11_code, 4, none), (7, false), mc_80)
set_option maxRecDepth 100000 in
/-- 81: PegCoats$Tape.<init>()V -/
noncomputable def mc_81 : pj_M := [(18, [(0, qe (.aload_n 0) 1 1), (1, qx (.invokespecial 3) 3 4 1000 1 0), (4, qe (.aload_n 0) 1 5), (5, qw (.sipush 1600) 3 8 1600), (8, qx (.newarray .int) 2 10 13 0 0), (10, qx (.putfield 9) 3 13 8 0 2), (13, qe (.aload_n 0) 1 14), (14, qw (.iconst 0) 1 15 0), (15, qx (.putfield 15) 3 18 8 1 0), (18, qe (.return_) 1 19)])]
noncomputable def mt_81 : pj_T := ((⟨"PegCoats$Tape", "<init>", "()V"⟩, prog_10_method_1_code, 1, none), (8, false), mc_81)
set_option maxRecDepth 100000 in
/-- 82: PegCoats$Tape.hasRoom(I)Z -/
noncomputable def mc_82 : pj_M := [(19, [(0, qe (.aload_n 0) 1 1), (1, qx (.getfield 15) 3 4 8 1 0), (4, qe (.iload_n 1) 1 5), (5, qe (.iadd) 1 6), (6, qe (.aload_n 0) 1 7), (7, qx (.getfield 9) 3 10 8 0 2), (10, qe (.arraylength) 1 11), (11, qx (.if_icmp .gt 7) 3 14 18 0 0), (14, qw (.iconst 1) 1 15 1), (15, qx (.goto 4) 3 18 19 0 0), (18, qw (.iconst 0) 1 19 0), (19, qe (.ireturn) 1 20)])]
noncomputable def mt_82 : pj_T := ((⟨"PegCoats$Tape", "hasRoom", "(I)Z"⟩, prog_10_method_2_code, 2, (some .boolean)), (8, true), mc_82)
set_option maxRecDepth 100000 in
/-- 83: PegCoats$Tape.add(I)V -/
noncomputable def mc_83 : pj_M := [(20, [(0, qw (.bipush 24) 2 2 24), (2, qe (.istore_n 2) 1 3), (3, qe (.iload_n 2) 1 4), (4, qx (.ifCond .lt 47) 3 7 51 0 0), (7, qe (.aload_n 0) 1 8), (8, qx (.getfield 15) 3 11 8 1 0), (11, qe (.aload_n 0) 1 12), (12, qx (.getfield 9) 3 15 8 0 2), (15, qe (.arraylength) 1 16), (16, qx (.if_icmp .ge 35) 3 19 51 0 0), (19, qe (.aload_n 0) 1 20), (20, qx (.getfield 9) 3 23 8 0 2)]), (40, [(23, qe (.aload_n 0) 1 24), (24, qx (.getfield 15) 3 27 8 1 0), (27, qe (.iload_n 1) 1 28), (28, qe (.iload_n 2) 1 29), (29, qe (.ishr) 1 30), (30, qw (.sipush 255) 3 33 255), (33, qe (.iand) 1 34), (34, qe (.iastore) 1 35), (35, qe (.aload_n 0) 1 36), (36, qe (.dup) 1 37), (37, qx (.getfield 15) 3 40 8 1 0), (40, qw (.iconst 1) 1 41 1)]), (51, [(41, qe (.iadd) 1 42), (42, qx (.putfield 15) 3 45 8 1 0), (45, qw (.iinc 2 (-8)) 3 48 (-8)), (48, qx (.goto (-45)) 3 51 3 0 0), (51, qe (.return_) 1 52)])]
noncomputable def mt_83 : pj_T := ((⟨"PegCoats$Tape", "add", "(I)V"⟩, prog_10_method_3_code, 3, none), (8, false), mc_83)
set_option maxRecDepth 100000 in
/-- 84: PegCoats$Tape.cut(I)Z -/
noncomputable def mc_84 : pj_M := [(19, [(0, qe (.iload_n 1) 1 1), (1, qx (.ifCond .lt 11) 3 4 12 0 0), (4, qe (.iload_n 1) 1 5), (5, qe (.aload_n 0) 1 6), (6, qx (.getfield 15) 3 9 8 1 0), (9, qx (.if_icmp .le 5) 3 12 14 0 0), (12, qw (.iconst 0) 1 13 0), (13, qe (.ireturn) 1 14), (14, qe (.aload_n 0) 1 15), (15, qe (.iload_n 1) 1 16), (16, qx (.putfield 15) 3 19 8 1 0), (19, qw (.iconst 1) 1 20 1)]), (20, [(20, qe (.ireturn) 1 21)])]
noncomputable def mt_84 : pj_T := ((⟨"PegCoats$Tape", "cut", "(I)Z"⟩, prog_10_method_4_code, 2, (some .boolean)), (8, true), mc_84)
set_option maxRecDepth 100000 in
/-- 85: PegCoats$Tape.at(I)I -/
noncomputable def mc_85 : pj_M := [(21, [(0, qe (.iload_n 1) 1 1), (1, qx (.ifCond .lt 11) 3 4 12 0 0), (4, qe (.iload_n 1) 1 5), (5, qe (.aload_n 0) 1 6), (6, qx (.getfield 15) 3 9 8 1 0), (9, qx (.if_icmp .lt 7) 3 12 16 0 0), (12, qw (.iconst (-1)) 1 13 (-1)), (13, qx (.goto 9) 3 16 22 0 0), (16, qe (.aload_n 0) 1 17), (17, qx (.getfield 9) 3 20 8 0 2), (20, qe (.iload_n 1) 1 21), (21, qe (.iaload) 1 22)]), (22, [(22, qe (.ireturn) 1 23)])]
noncomputable def mt_85 : pj_T := ((⟨"PegCoats$Tape", "at", "(I)I"⟩, prog_10_method_6_code, 2, (some .int)), (8, false), mc_85)
set_option maxRecDepth 100000 in
/-- 86: PegCoats$Tape.clear()V -/
noncomputable def mc_86 : pj_M := [(5, [(0, qe (.aload_n 0) 1 1), (1, qw (.iconst 0) 1 2 0), (2, qx (.putfield 15) 3 5 8 1 0), (5, qe (.return_) 1 6)])]
noncomputable def mt_86 : pj_T := ((⟨"PegCoats$Tape", "clear", "()V"⟩, prog_10_method_5_code, 1, none), (8, false), mc_86)
set_option maxRecDepth 100000 in
/-- 87: PegCoats$Telling.<init>(LPegCoats$Works;LPegCoats$Course;)V -/
noncomputable def mc_87 : pj_M := [(23, [(0, qe (.aload_n 0) 1 1), (1, qx (.invokespecial 3) 3 4 1000 1 0), (4, qe (.aload_n 0) 1 5), (5, qx (.new 9) 3 8 7 9 0), (8, qe (.dup) 1 9), (9, qx (.invokespecial 11) 3 12 70 1 7), (12, qx (.putfield 12) 3 15 9 2 2), (15, qe (.aload_n 0) 1 16), (16, qw (.bipush 48) 2 18 48), (18, qx (.newarray .int) 2 20 13 0 0), (20, qx (.putfield 18) 3 23 9 3 2), (23, qe (.aload_n 0) 1 24)]), (48, [(24, qw (.iconst 0) 1 25 0), (25, qx (.putfield 22) 3 28 9 4 0), (28, qe (.aload_n 0) 1 29), (29, qw (.bipush 9) 2 31 9), (31, qw (.bipush 31) 2 33 31), (33, qe (.multianewarray 26 2) 4 37), (37, qx (.putfield 28) 3 40 9 5 2), (40, qe (.aload_n 0) 1 41), (41, qw (.bipush 9) 2 43 9), (43, qx (.newarray .int) 2 45 13 0 0), (45, qx (.putfield 31) 3 48 9 6 2), (48, qe (.aload_n 0) 1 49)]), (68, [(49, qw (.iconst 0) 1 50 0), (50, qx (.putfield 34) 3 53 9 7 0), (53, qe (.aload_n 0) 1 54), (54, qw (.iconst 0) 1 55 0), (55, qx (.putfield 37) 3 58 9 8 0), (58, qe (.aload_n 0) 1 59), (59, qw (.iconst (-1)) 1 60 (-1)), (60, qx (.putfield 40) 3 63 9 9 0), (63, qe (.aload_n 0) 1 64), (64, qw (.iconst (-1)) 1 65 (-1)), (65, qx (.putfield 43) 3 68 9 10 0), (68, qe (.aload_n 0) 1 69)]), (83, [(69, qw (.iconst (-1)) 1 70 (-1)), (70, qx (.putfield 46) 3 73 9 11 0), (73, qe (.aload_n 0) 1 74), (74, qe (.aload_n 1) 1 75), (75, qx (.putfield 49) 3 78 9 0 2), (78, qe (.aload_n 0) 1 79), (79, qe (.aload_n 2) 1 80), (80, qx (.putfield 53) 3 83 9 1 2), (83, qe (.return_) 1 84)])]
noncomputable def mt_87 : pj_T := ((⟨"PegCoats$Telling", "<init>", "(LPegCoats$Works;LPegCoats$Course;)V"⟩, prog_11_method_1_code, 3, none), (9, false), mc_87)
set_option maxRecDepth 100000 in
/-- 88: PegCoats$Telling.forget()V -/
noncomputable def mc_88 : pj_M := [(5, [(0, qe (.aload_n 0) 1 1), (1, qw (.iconst 0) 1 2 0), (2, qx (.putfield 22) 3 5 9 4 0), (5, qe (.return_) 1 6)])]
noncomputable def mt_88 : pj_T := ((⟨"PegCoats$Telling", "forget", "()V"⟩, prog_11_method_2_code, 1, none), (9, false), mc_88)
set_option maxRecDepth 100000 in
/-- 89: PegCoats$Telling.take(LPegCoats$Tape;)Z -/
noncomputable def mc_89 : pj_M := [(18, [(0, qe (.aload_n 1) 1 1), (1, qx (.getfield 57) 3 4 8 1 0), (4, qw (.iconst 3) 1 5 3), (5, qe (.idiv) 1 6), (6, qe (.istore_n 2) 1 7), (7, qe (.iload_n 2) 1 8), (8, qw (.iconst 1) 1 9 1), (9, qx (.if_icmp .lt 19) 3 12 28 0 0), (12, qe (.iload_n 2) 1 13), (13, qw (.bipush 16) 2 15 16), (15, qx (.if_icmp .gt 13) 3 18 28 0 0), (18, qe (.iload_n 2) 1 19)]), (34, [(19, qw (.iconst 3) 1 20 3), (20, qe (.imul) 1 21), (21, qe (.aload_n 1) 1 22), (22, qx (.getfield 57) 3 25 8 1 0), (25, qx (.if_icmp .eq 5) 3 28 30 0 0), (28, qw (.iconst 0) 1 29 0), (29, qe (.ireturn) 1 30), (30, qw (.iconst 0) 1 31 0), (31, qe (.istore_n 3) 1 32), (32, qe (.iload_n 3) 1 33), (33, qe (.iload_n 2) 1 34), (34, qx (.if_icmp .ge 75) 3 37 109 0 0)]), (51, [(37, qe (.aload_n 1) 1 38), (38, qe (.iload_n 3) 1 39), (39, qw (.iconst 3) 1 40 3), (40, qe (.imul) 1 41), (41, qw (.iconst 2) 1 42 2), (42, qe (.iadd) 1 43), (43, qx (.invokevirtual 62) 3 46 85 2 8), (46, qe (.istore 4) 2 48), (48, qe (.aload_n 1) 1 49), (49, qe (.iload_n 3) 1 50), (50, qw (.iconst 3) 1 51 3), (51, qe (.imul) 1 52)]), (70, [(52, qx (.invokevirtual 62) 3 55 85 2 8), (55, qw (.bipush 30) 2 57 30), (57, qx (.if_icmp .gt 22) 3 60 79 0 0), (60, qe (.aload_n 1) 1 61), (61, qe (.iload_n 3) 1 62), (62, qw (.iconst 3) 1 63 3), (63, qe (.imul) 1 64), (64, qw (.iconst 1) 1 65 1), (65, qe (.iadd) 1 66), (66, qx (.invokevirtual 62) 3 69 85 2 8), (69, qe (.aload_n 0) 1 70), (70, qx (.getfield 49) 3 73 9 0 2)]), (98, [(73, qx (.getfield 66) 3 76 10 13 0), (76, qx (.if_icmp .lt 5) 3 79 81 0 0), (79, qw (.iconst 0) 1 80 0), (80, qe (.ireturn) 1 81), (81, qe (.iload 4) 2 83), (83, qw (.sipush 255) 3 86 255), (86, qx (.if_icmp .eq 17) 3 89 103 0 0), (89, qe (.iload 4) 2 91), (91, qe (.aload_n 0) 1 92), (92, qx (.getfield 49) 3 95 9 0 2), (95, qx (.getfield 71) 3 98 10 12 0), (98, qx (.if_icmp .lt 5) 3 101 103 0 0)]), (118, [(101, qw (.iconst 0) 1 102 0), (102, qe (.ireturn) 1 103), (103, qw (.iinc 3 1) 3 106 1), (106, qx (.goto (-74)) 3 109 32 0 0), (109, qw (.iconst 0) 1 110 0), (110, qe (.istore_n 3) 1 111), (111, qe (.iload_n 3) 1 112), (112, qe (.iload_n 2) 1 113), (113, qw (.iconst 3) 1 114 3), (114, qe (.imul) 1 115), (115, qx (.if_icmp .ge 20) 3 118 135 0 0), (118, qe (.aload_n 0) 1 119)]), (140, [(119, qx (.getfield 18) 3 122 9 3 2), (122, qe (.iload_n 3) 1 123), (123, qe (.aload_n 1) 1 124), (124, qe (.iload_n 3) 1 125), (125, qx (.invokevirtual 62) 3 128 85 2 8), (128, qe (.iastore) 1 129), (129, qw (.iinc 3 1) 3 132 1), (132, qx (.goto (-21)) 3 135 111 0 0), (135, qe (.aload_n 0) 1 136), (136, qe (.iload_n 2) 1 137), (137, qx (.putfield 22) 3 140 9 4 0), (140, qw (.iconst 1) 1 141 1)]), (141, [(141, qe (.ireturn) 1 142)])]
noncomputable def mt_89 : pj_T := ((⟨"PegCoats$Telling", "take", "(LPegCoats$Tape;)Z"⟩, prog_11_method_3_code, 5, (some .boolean)), (9, true), mc_89)
set_option maxRecDepth 100000 in
/-- 90: PegCoats$Telling.latestRow()I -/
noncomputable def mc_90 : pj_M := [(17, [(0, qw (.iconst 0) 1 1 0), (1, qe (.istore_n 1) 1 2), (2, qw (.iconst 0) 1 3 0), (3, qe (.istore_n 2) 1 4), (4, qe (.iload_n 2) 1 5), (5, qe (.aload_n 0) 1 6), (6, qx (.getfield 22) 3 9 9 4 0), (9, qx (.if_icmp .ge 22) 3 12 31 0 0), (12, qe (.iload_n 1) 1 13), (13, qe (.aload_n 0) 1 14), (14, qx (.getfield 18) 3 17 9 3 2), (17, qe (.iload_n 2) 1 18)]), (32, [(18, qw (.iconst 3) 1 19 3), (19, qe (.imul) 1 20), (20, qe (.iaload) 1 21), (21, qx (.invokestatic 74) 3 24 1002 2 0), (24, qe (.istore_n 1) 1 25), (25, qw (.iinc 2 1) 3 28 1), (28, qx (.goto (-24)) 3 31 4 0 0), (31, qe (.iload_n 1) 1 32), (32, qe (.ireturn) 1 33)])]
noncomputable def mt_90 : pj_T := ((⟨"PegCoats$Telling", "latestRow", "()I"⟩, prog_11_method_4_code, 3, (some .int)), (9, false), mc_90)
set_option maxRecDepth 100000 in
/-- 91: PegCoats$Telling.gather(LPegCoats$State;II)V -/
noncomputable def mc_91 : pj_M := [(19, [(0, qe (.aload_n 0) 1 1), (1, qe (.aload_n 1) 1 2), (2, qe (.iload_n 2) 1 3), (3, qx (.invokevirtual 80) 3 6 92 3 9), (6, qe (.istore 4) 2 8), (8, qe (.aload_n 0) 1 9), (9, qe (.iload_n 3) 1 10), (10, qw (.bipush 30) 2 12 30), (12, qx (.invokestatic 84) 3 15 1001 2 0), (15, qw (.sipush 999) 3 18 999), (18, qe (.aload_n 1) 1 19), (19, qx (.getfield 87) 3 22 7 7 0)]), (44, [(22, qe (.isub) 1 23), (23, qx (.invokestatic 84) 3 26 1001 2 0), (26, qx (.putfield 34) 3 29 9 7 0), (29, qe (.aload_n 0) 1 30), (30, qw (.iconst 0) 1 31 0), (31, qx (.putfield 37) 3 34 9 8 0), (34, qw (.iconst 0) 1 35 0), (35, qe (.istore 5) 2 37), (37, qe (.iload 5) 2 39), (39, qw (.bipush 9) 2 41 9), (41, qx (.if_icmp .ge 122) 3 44 163 0 0), (44, qe (.iload 4) 2 46)]), (66, [(46, qe (.iload 5) 2 48), (48, qe (.ishr) 1 49), (49, qw (.iconst 1) 1 50 1), (50, qe (.iand) 1 51), (51, qx (.ifCond .ne 6) 3 54 57 0 0), (54, qx (.goto 103) 3 57 157 0 0), (57, qe (.aload_n 0) 1 58), (58, qx (.getfield 12) 3 61 9 2 2), (61, qe (.aload_n 1) 1 62), (62, qx (.invokevirtual 90) 3 65 77 2 7), (65, qe (.aload_n 0) 1 66), (66, qx (.getfield 12) 3 69 9 2 2)]), (86, [(69, qx (.getfield 94) 3 72 7 4 2), (72, qe (.iload_n 2) 1 73), (73, qe (.iload 5) 2 75), (75, qw (.iconst 1) 1 76 1), (76, qe (.isub) 1 77), (77, qe (.iastore) 1 78), (78, qe (.aload_n 0) 1 79), (79, qx (.getfield 28) 3 82 9 5 2), (82, qe (.iload 5) 2 84), (84, qe (.aaload) 1 85), (85, qw (.iconst 0) 1 86 0), (86, qe (.aload_n 0) 1 87)]), (108, [(87, qx (.invokevirtual 97) 3 90 93 1 9), (90, qe (.iastore) 1 91), (91, qw (.iconst 1) 1 92 1), (92, qe (.istore 6) 2 94), (94, qe (.iload 6) 2 96), (96, qe (.aload_n 0) 1 97), (97, qx (.getfield 34) 3 100 9 7 0), (100, qx (.if_icmp .gt 35) 3 103 135 0 0), (103, qe (.aload_n 0) 1 104), (104, qx (.getfield 53) 3 107 9 1 2), (107, qe (.aload_n 0) 1 108), (108, qx (.getfield 12) 3 111 9 2 2)]), (132, [(111, qw (.iconst (-1)) 1 112 (-1)), (112, qx (.invokevirtual 101) 3 115 2 3 0), (115, qe (.aload_n 0) 1 116), (116, qx (.getfield 28) 3 119 9 5 2), (119, qe (.iload 5) 2 121), (121, qe (.aaload) 1 122), (122, qe (.iload 6) 2 124), (124, qe (.aload_n 0) 1 125), (125, qx (.invokevirtual 97) 3 128 93 1 9), (128, qe (.iastore) 1 129), (129, qw (.iinc 6 1) 3 132 1), (132, qx (.goto (-38)) 3 135 94 0 0)]), (154, [(135, qe (.aload_n 0) 1 136), (136, qe (.iload 5) 2 138), (138, qx (.invokevirtual 107) 3 141 94 2 9), (141, qx (.ifCond .eq 16) 3 144 157 0 0), (144, qe (.aload_n 0) 1 145), (145, qe (.dup) 1 146), (146, qx (.getfield 37) 3 149 9 8 0), (149, qw (.iconst 1) 1 150 1), (150, qe (.iload 5) 2 152), (152, qe (.ishl) 1 153), (153, qe (.ior) 1 154), (154, qx (.putfield 37) 3 157 9 8 0)]), (163, [(157, qw (.iinc 5 1) 3 160 1), (160, qx (.goto (-123)) 3 163 37 0 0), (163, qe (.return_) 1 164)])]
noncomputable def mt_91 : pj_T := ((⟨"PegCoats$Telling", "gather", "(LPegCoats$State;II)V"⟩, prog_11_method_5_code, 7, none), (9, false), mc_91)
set_option maxRecDepth 100000 in
/-- 92: PegCoats$Telling.choicesOf(LPegCoats$State;I)I -/
noncomputable def mc_92 : pj_M := [(19, [(0, qe (.aload_n 1) 1 1), (1, qe (.aload_n 0) 1 2), (2, qx (.getfield 49) 3 5 9 0 2), (5, qx (.invokevirtual 111) 3 8 74 2 7), (8, qe (.istore_n 3) 1 9), (9, qe (.aload_n 1) 1 10), (10, qx (.getfield 94) 3 13 7 4 2), (13, qe (.iload_n 2) 1 14), (14, qe (.iaload) 1 15), (15, qw (.iconst (-1)) 1 16 (-1)), (16, qx (.if_icmp .eq 14) 3 19 30 0 0), (19, qe (.iload_n 3) 1 20)]), (33, [(20, qw (.iconst 1) 1 21 1), (21, qe (.aload_n 1) 1 22), (22, qx (.getfield 94) 3 25 7 4 2), (25, qe (.iload_n 2) 1 26), (26, qe (.iaload) 1 27), (27, qe (.ishl) 1 28), (28, qe (.ior) 1 29), (29, qe (.istore_n 3) 1 30), (30, qw (.iconst 1) 1 31 1), (31, qe (.iload_n 3) 1 32), (32, qw (.iconst 1) 1 33 1), (33, qe (.ishl) 1 34)]), (35, [(34, qe (.ior) 1 35), (35, qe (.ireturn) 1 36)])]
noncomputable def mt_92 : pj_T := ((⟨"PegCoats$Telling", "choicesOf", "(LPegCoats$State;I)I"⟩, prog_11_method_6_code, 4, (some .int)), (9, false), mc_92)
set_option maxRecDepth 100000 in
/-- 93: PegCoats$Telling.outfit()I -/
noncomputable def mc_93 : pj_M := [(19, [(0, qw (.iconst 0) 1 1 0), (1, qe (.istore_n 1) 1 2), (2, qw (.iconst 0) 1 3 0), (3, qe (.istore_n 2) 1 4), (4, qe (.iload_n 2) 1 5), (5, qe (.aload_n 0) 1 6), (6, qx (.getfield 49) 3 9 9 0 2), (9, qx (.getfield 66) 3 12 10 13 0), (12, qx (.if_icmp .ge 45) 3 15 57 0 0), (15, qe (.aload_n 0) 1 16), (16, qx (.getfield 12) 3 19 9 2 2), (19, qx (.getfield 94) 3 22 7 4 2)]), (42, [(22, qe (.iload_n 2) 1 23), (23, qe (.iaload) 1 24), (24, qw (.iconst (-1)) 1 25 (-1)), (25, qx (.if_icmp .ne 8) 3 28 33 0 0), (28, qw (.bipush 8) 2 30 8), (30, qx (.goto 12) 3 33 42 0 0), (33, qe (.aload_n 0) 1 34), (34, qx (.getfield 12) 3 37 9 2 2), (37, qx (.getfield 94) 3 40 7 4 2), (40, qe (.iload_n 2) 1 41), (41, qe (.iaload) 1 42), (42, qe (.istore_n 3) 1 43)]), (58, [(43, qe (.iload_n 1) 1 44), (44, qe (.iload_n 3) 1 45), (45, qw (.iconst 4) 1 46 4), (46, qe (.iload_n 2) 1 47), (47, qe (.imul) 1 48), (48, qe (.ishl) 1 49), (49, qe (.ior) 1 50), (50, qe (.istore_n 1) 1 51), (51, qw (.iinc 2 1) 3 54 1), (54, qx (.goto (-50)) 3 57 4 0 0), (57, qe (.iload_n 1) 1 58), (58, qe (.ireturn) 1 59)])]
noncomputable def mt_93 : pj_T := ((⟨"PegCoats$Telling", "outfit", "()I"⟩, prog_11_method_7_code, 4, (some .int)), (9, false), mc_93)
set_option maxRecDepth 100000 in
/-- 94: PegCoats$Telling.goesWithRows(I)Z -/
noncomputable def mc_94 : pj_M := [(17, [(0, qw (.iconst 0) 1 1 0), (1, qe (.istore_n 2) 1 2), (2, qe (.iload_n 2) 1 3), (3, qe (.aload_n 0) 1 4), (4, qx (.getfield 22) 3 7 9 4 0), (7, qx (.if_icmp .ge 82) 3 10 89 0 0), (10, qe (.aload_n 0) 1 11), (11, qx (.getfield 18) 3 14 9 3 2), (14, qe (.iload_n 2) 1 15), (15, qw (.iconst 3) 1 16 3), (16, qe (.imul) 1 17), (17, qe (.iaload) 1 18)]), (35, [(18, qe (.istore_n 3) 1 19), (19, qe (.aload_n 0) 1 20), (20, qx (.getfield 18) 3 23 9 3 2), (23, qe (.iload_n 2) 1 24), (24, qw (.iconst 3) 1 25 3), (25, qe (.imul) 1 26), (26, qw (.iconst 2) 1 27 2), (27, qe (.iadd) 1 28), (28, qe (.iaload) 1 29), (29, qw (.sipush 255) 3 32 255), (32, qx (.if_icmp .ne 8) 3 35 40 0 0), (35, qw (.bipush 8) 2 37 8)]), (53, [(37, qx (.goto 13) 3 40 50 0 0), (40, qe (.aload_n 0) 1 41), (41, qx (.getfield 18) 3 44 9 3 2), (44, qe (.iload_n 2) 1 45), (45, qw (.iconst 3) 1 46 3), (46, qe (.imul) 1 47), (47, qw (.iconst 2) 1 48 2), (48, qe (.iadd) 1 49), (49, qe (.iaload) 1 50), (50, qe (.istore 4) 2 52), (52, qe (.iload_n 3) 1 53), (53, qe (.aload_n 0) 1 54)]), (71, [(54, qx (.getfield 34) 3 57 9 7 0), (57, qx (.if_icmp .gt 24) 3 60 81 0 0), (60, qe (.aload_n 0) 1 61), (61, qe (.iload_n 1) 1 62), (62, qe (.iload_n 3) 1 63), (63, qe (.aload_n 0) 1 64), (64, qx (.getfield 18) 3 67 9 3 2), (67, qe (.iload_n 2) 1 68), (68, qw (.iconst 3) 1 69 3), (69, qe (.imul) 1 70), (70, qw (.iconst 1) 1 71 1), (71, qe (.iadd) 1 72)]), (90, [(72, qe (.iaload) 1 73), (73, qx (.invokevirtual 115) 3 76 95 4 9), (76, qe (.iload 4) 2 78), (78, qx (.if_icmp .eq 5) 3 81 83 0 0), (81, qw (.iconst 0) 1 82 0), (82, qe (.ireturn) 1 83), (83, qw (.iinc 2 1) 3 86 1), (86, qx (.goto (-84)) 3 89 2 0 0), (89, qw (.iconst 1) 1 90 1), (90, qe (.ireturn) 1 91)])]
noncomputable def mt_94 : pj_T := ((⟨"PegCoats$Telling", "goesWithRows", "(I)Z"⟩, prog_11_method_9_code, 5, (some .boolean)), (9, true), mc_94)
set_option maxRecDepth 100000 in
/-- 95: PegCoats$Telling.coatIn(III)I -/
noncomputable def mc_95 : pj_M := [(14, [(0, qe (.aload_n 0) 1 1), (1, qx (.getfield 28) 3 4 9 5 2), (4, qe (.iload_n 1) 1 5), (5, qe (.aaload) 1 6), (6, qe (.iload_n 2) 1 7), (7, qe (.iaload) 1 8), (8, qw (.iconst 4) 1 9 4), (9, qe (.iload_n 3) 1 10), (10, qe (.imul) 1 11), (11, qe (.ishr) 1 12), (12, qw (.bipush 15) 2 14 15), (14, qe (.iand) 1 15)]), (15, [(15, qe (.ireturn) 1 16)])]
noncomputable def mt_95 : pj_T := ((⟨"PegCoats$Telling", "coatIn", "(III)I"⟩, prog_11_method_8_code, 4, (some .int)), (9, false), mc_95)
set_option maxRecDepth 100000 in
/-- 96: PegCoats$Telling.choose()V -/
noncomputable def mc_96 : pj_M := [(19, [(0, qe (.aload_n 0) 1 1), (1, qw (.iconst (-1)) 1 2 (-1)), (2, qx (.putfield 40) 3 5 9 9 0), (5, qe (.aload_n 0) 1 6), (6, qw (.iconst (-1)) 1 7 (-1)), (7, qx (.putfield 43) 3 10 9 10 0), (10, qe (.aload_n 0) 1 11), (11, qw (.iconst (-1)) 1 12 (-1)), (12, qx (.putfield 46) 3 15 9 11 0), (15, qe (.aload_n 0) 1 16), (16, qx (.getfield 37) 3 19 9 8 0), (19, qx (.ifCond .ne 4) 3 22 23 0 0)]), (37, [(22, qe (.return_) 1 23), (23, qw (.iconst 1) 1 24 1), (24, qe (.istore_n 1) 1 25), (25, qe (.iload_n 1) 1 26), (26, qe (.aload_n 0) 1 27), (27, qx (.getfield 34) 3 30 9 7 0), (30, qx (.if_icmp .gt 66) 3 33 96 0 0), (33, qw (.iconst 0) 1 34 0), (34, qe (.istore_n 2) 1 35), (35, qe (.iload_n 2) 1 36), (36, qe (.aload_n 0) 1 37), (37, qx (.getfield 49) 3 40 9 0 2)]), (61, [(40, qx (.getfield 66) 3 43 10 13 0), (43, qx (.if_icmp .ge 47) 3 46 90 0 0), (46, qe (.aload_n 0) 1 47), (47, qe (.iload_n 1) 1 48), (48, qe (.iload_n 2) 1 49), (49, qx (.invokevirtual 119) 3 52 97 3 9), (52, qe (.istore_n 3) 1 53), (53, qe (.aload_n 0) 1 54), (54, qx (.getfield 46) 3 57 9 11 0), (57, qw (.iconst (-1)) 1 58 (-1)), (58, qx (.if_icmp .eq 11) 3 61 69 0 0), (61, qe (.iload_n 3) 1 62)]), (81, [(62, qe (.aload_n 0) 1 63), (63, qx (.getfield 46) 3 66 9 11 0), (66, qx (.if_icmp .ge 18) 3 69 84 0 0), (69, qe (.aload_n 0) 1 70), (70, qe (.iload_n 1) 1 71), (71, qx (.putfield 40) 3 74 9 9 0), (74, qe (.aload_n 0) 1 75), (75, qe (.iload_n 2) 1 76), (76, qx (.putfield 43) 3 79 9 10 0), (79, qe (.aload_n 0) 1 80), (80, qe (.iload_n 3) 1 81), (81, qx (.putfield 46) 3 84 9 11 0)]), (96, [(84, qw (.iinc 2 1) 3 87 1), (87, qx (.goto (-52)) 3 90 35 0 0), (90, qw (.iinc 1 1) 3 93 1), (93, qx (.goto (-68)) 3 96 25 0 0), (96, qe (.return_) 1 97)])]
noncomputable def mt_96 : pj_T := ((⟨"PegCoats$Telling", "choose", "()V"⟩, prog_11_method_10_code, 4, none), (9, false), mc_96)
set_option maxRecDepth 100000 in
/-- 97: PegCoats$Telling.mostLeft(II)I -/
noncomputable def mc_97 : pj_M := [(18, [(0, qw (.iconst 0) 1 1 0), (1, qe (.istore_n 3) 1 2), (2, qe (.iload_n 3) 1 3), (3, qw (.bipush 9) 2 5 9), (5, qx (.if_icmp .ge 16) 3 8 21 0 0), (8, qe (.aload_n 0) 1 9), (9, qx (.getfield 31) 3 12 9 6 2), (12, qe (.iload_n 3) 1 13), (13, qw (.iconst 0) 1 14 0), (14, qe (.iastore) 1 15), (15, qw (.iinc 3 1) 3 18 1), (18, qx (.goto (-16)) 3 21 2 0 0)]), (40, [(21, qw (.iconst 0) 1 22 0), (22, qe (.istore_n 3) 1 23), (23, qw (.iconst 0) 1 24 0), (24, qe (.istore 4) 2 26), (26, qe (.iload 4) 2 28), (28, qw (.bipush 9) 2 30 9), (30, qx (.if_icmp .ge 64) 3 33 94 0 0), (33, qe (.aload_n 0) 1 34), (34, qx (.getfield 37) 3 37 9 8 0), (37, qe (.iload 4) 2 39), (39, qe (.ishr) 1 40), (40, qw (.iconst 1) 1 41 1)]), (62, [(41, qe (.iand) 1 42), (42, qx (.ifCond .ne 6) 3 45 48 0 0), (45, qx (.goto 43) 3 48 88 0 0), (48, qe (.aload_n 0) 1 49), (49, qe (.iload 4) 2 51), (51, qe (.iload_n 1) 1 52), (52, qe (.iload_n 2) 1 53), (53, qx (.invokevirtual 115) 3 56 95 4 9), (56, qe (.istore 5) 2 58), (58, qe (.iload 5) 2 60), (60, qw (.bipush 9) 2 62 9), (62, qx (.if_icmp .ge 26) 3 65 88 0 0)]), (81, [(65, qe (.aload_n 0) 1 66), (66, qx (.getfield 31) 3 69 9 6 2), (69, qe (.iload 5) 2 71), (71, qe (.dup2) 1 72), (72, qe (.iaload) 1 73), (73, qw (.iconst 1) 1 74 1), (74, qe (.iadd) 1 75), (75, qe (.iastore) 1 76), (76, qe (.iload_n 3) 1 77), (77, qe (.aload_n 0) 1 78), (78, qx (.getfield 31) 3 81 9 6 2), (81, qe (.iload 5) 2 83)]), (95, [(83, qe (.iaload) 1 84), (84, qx (.invokestatic 74) 3 87 1002 2 0), (87, qe (.istore_n 3) 1 88), (88, qw (.iinc 4 1) 3 91 1), (91, qx (.goto (-65)) 3 94 26 0 0), (94, qe (.iload_n 3) 1 95), (95, qe (.ireturn) 1 96)])]
noncomputable def mt_97 : pj_T := ((⟨"PegCoats$Telling", "mostLeft", "(II)I"⟩, prog_11_method_11_code, 6, (some .int)), (9, false), mc_97)
set_option maxRecDepth 100000 in
/-- 98: PegCoats$Works.<init>()V -/
noncomputable def mc_98 : pj_M := [(21, [(0, qe (.aload_n 0) 1 1), (1, qx (.invokespecial 3) 3 4 1000 1 0), (4, qe (.aload_n 0) 1 5), (5, qw (.bipush 8) 2 7 8), (7, qx (.newarray .int) 2 9 13 0 0), (9, qx (.putfield 9) 3 12 10 0 2), (12, qe (.aload_n 0) 1 13), (13, qw (.bipush 8) 2 15 8), (15, qx (.newarray .int) 2 17 13 0 0), (17, qx (.putfield 15) 3 20 10 1 2), (20, qe (.aload_n 0) 1 21), (21, qw (.bipush 8) 2 23 8)]), (45, [(23, qx (.newarray .int) 2 25 13 0 0), (25, qx (.putfield 18) 3 28 10 2 2), (28, qe (.aload_n 0) 1 29), (29, qw (.bipush 7) 2 31 7), (31, qx (.newarray .int) 2 33 13 0 0), (33, qx (.putfield 21) 3 36 10 3 2), (36, qe (.aload_n 0) 1 37), (37, qw (.bipush 7) 2 39 7), (39, qx (.newarray .int) 2 41 13 0 0), (41, qx (.putfield 24) 3 44 10 4 2), (44, qe (.aload_n 0) 1 45), (45, qw (.bipush 7) 2 47 7)]), (70, [(47, qx (.newarray .int) 2 49 13 0 0), (49, qx (.putfield 27) 3 52 10 5 2), (52, qe (.aload_n 0) 1 53), (53, qw (.bipush 7) 2 55 7), (55, qx (.newarray .int) 2 57 13 0 0), (57, qx (.putfield 30) 3 60 10 6 2), (60, qe (.aload_n 0) 1 61), (61, qw (.sipush 1600) 3 64 1600), (64, qx (.newarray .int) 2 66 13 0 0), (66, qx (.putfield 33) 3 69 10 7 2), (69, qe (.aload_n 0) 1 70), (70, qw (.iconst 3) 1 71 3)]), (92, [(71, qx (.newarray .int) 2 73 13 0 0), (73, qx (.putfield 36) 3 76 10 8 2), (76, qe (.aload_n 0) 1 77), (77, qw (.iconst 3) 1 78 3), (78, qx (.newarray .int) 2 80 13 0 0), (80, qx (.putfield 39) 3 83 10 9 2), (83, qe (.aload_n 0) 1 84), (84, qw (.bipush 29) 2 86 29), (86, qx (.newarray .int) 2 88 13 0 0), (88, qx (.putfield 42) 3 91 10 10 2), (91, qe (.aload_n 0) 1 92), (92, qw (.sipush 128) 3 95 128)]), (115, [(95, qx (.newarray .int) 2 97 13 0 0), (97, qx (.putfield 45) 3 100 10 11 2), (100, qe (.aload_n 0) 1 101), (101, qw (.iconst 0) 1 102 0), (102, qx (.putfield 48) 3 105 10 12 0), (105, qe (.aload_n 0) 1 106), (106, qw (.iconst 0) 1 107 0), (107, qx (.putfield 52) 3 110 10 13 0), (110, qe (.aload_n 0) 1 111), (111, qw (.iconst 0) 1 112 0), (112, qx (.putfield 55) 3 115 10 14 0), (115, qe (.aload_n 0) 1 116)]), (125, [(116, qw (.iconst 0) 1 117 0), (117, qx (.putfield 58) 3 120 10 15 0), (120, qe (.aload_n 0) 1 121), (121, qw (.iconst 0) 1 122 0), (122, qx (.putfield 61) 3 125 10 16 0), (125, qe (.return_) 1 126)])]
noncomputable def mt_98 : pj_T := ((⟨"PegCoats$Works", "<init>", "()V"⟩, prog_12_method_1_code, 1, none), (10, false), mc_98)
set_option maxRecDepth 100000 in
/-- 99: PegCoats$Works.firstWearer(I)I -/
noncomputable def mc_99 : pj_M := [(17, [(0, qw (.iconst 0) 1 1 0), (1, qe (.istore_n 2) 1 2), (2, qe (.iload_n 2) 1 3), (3, qe (.aload_n 0) 1 4), (4, qx (.getfield 52) 3 7 10 13 0), (7, qx (.if_icmp .ge 21) 3 10 28 0 0), (10, qe (.aload_n 0) 1 11), (11, qx (.getfield 30) 3 14 10 6 2), (14, qe (.iload_n 2) 1 15), (15, qe (.iaload) 1 16), (16, qe (.iload_n 1) 1 17), (17, qx (.if_icmp .ne 5) 3 20 22 0 0)]), (29, [(20, qe (.iload_n 2) 1 21), (21, qe (.ireturn) 1 22), (22, qw (.iinc 2 1) 3 25 1), (25, qx (.goto (-23)) 3 28 2 0 0), (28, qw (.iconst (-1)) 1 29 (-1)), (29, qe (.ireturn) 1 30)])]
noncomputable def mt_99 : pj_T := ((⟨"PegCoats$Works", "firstWearer", "(I)I"⟩, prog_12_method_7_code, 3, (some .int)), (10, false), mc_99)
set_option maxRecDepth 100000 in
/-- 100: PegCoats$Works.clear()V -/
noncomputable def mc_100 : pj_M := [(15, [(0, qw (.iconst 0) 1 1 0), (1, qe (.istore_n 1) 1 2), (2, qe (.iload_n 1) 1 3), (3, qw (.iconst 3) 1 4 3), (4, qx (.if_icmp .ge 23) 3 7 27 0 0), (7, qe (.aload_n 0) 1 8), (8, qx (.getfield 36) 3 11 10 8 2), (11, qe (.iload_n 1) 1 12), (12, qw (.iconst 0) 1 13 0), (13, qe (.iastore) 1 14), (14, qe (.aload_n 0) 1 15), (15, qx (.getfield 39) 3 18 10 9 2)]), (37, [(18, qe (.iload_n 1) 1 19), (19, qw (.iconst 0) 1 20 0), (20, qe (.iastore) 1 21), (21, qw (.iinc 1 1) 3 24 1), (24, qx (.goto (-22)) 3 27 2 0 0), (27, qe (.aload_n 0) 1 28), (28, qw (.iconst 0) 1 29 0), (29, qx (.putfield 48) 3 32 10 12 0), (32, qe (.aload_n 0) 1 33), (33, qw (.iconst 0) 1 34 0), (34, qx (.putfield 52) 3 37 10 13 0), (37, qe (.aload_n 0) 1 38)]), (52, [(38, qw (.iconst 0) 1 39 0), (39, qx (.putfield 55) 3 42 10 14 0), (42, qe (.aload_n 0) 1 43), (43, qw (.iconst 0) 1 44 0), (44, qx (.putfield 58) 3 47 10 15 0), (47, qe (.aload_n 0) 1 48), (48, qw (.iconst 0) 1 49 0), (49, qx (.putfield 61) 3 52 10 16 0), (52, qe (.return_) 1 53)])]
noncomputable def mt_100 : pj_T := ((⟨"PegCoats$Works", "clear", "()V"⟩, prog_12_method_2_code, 2, none), (10, false), mc_100)
set_option maxRecDepth 100000 in
/-- 101: PegCoats$Works.coatNamed(I)I -/
noncomputable def mc_101 : pj_M := [(17, [(0, qw (.iconst 0) 1 1 0), (1, qe (.istore_n 2) 1 2), (2, qe (.iload_n 2) 1 3), (3, qe (.aload_n 0) 1 4), (4, qx (.getfield 48) 3 7 10 12 0), (7, qx (.if_icmp .ge 21) 3 10 28 0 0), (10, qe (.aload_n 0) 1 11), (11, qx (.getfield 9) 3 14 10 0 2), (14, qe (.iload_n 2) 1 15), (15, qe (.iaload) 1 16), (16, qe (.iload_n 1) 1 17), (17, qx (.if_icmp .ne 5) 3 20 22 0 0)]), (29, [(20, qe (.iload_n 2) 1 21), (21, qe (.ireturn) 1 22), (22, qw (.iinc 2 1) 3 25 1), (25, qx (.goto (-23)) 3 28 2 0 0), (28, qw (.iconst (-1)) 1 29 (-1)), (29, qe (.ireturn) 1 30)])]
noncomputable def mt_101 : pj_T := ((⟨"PegCoats$Works", "coatNamed", "(I)I"⟩, prog_12_method_5_code, 3, (some .int)), (10, false), mc_101)
set_option maxRecDepth 100000 in
/-- 102: PegCoats$Works.manNamed(I)I -/
noncomputable def mc_102 : pj_M := [(17, [(0, qw (.iconst 0) 1 1 0), (1, qe (.istore_n 2) 1 2), (2, qe (.iload_n 2) 1 3), (3, qe (.aload_n 0) 1 4), (4, qx (.getfield 52) 3 7 10 13 0), (7, qx (.if_icmp .ge 21) 3 10 28 0 0), (10, qe (.aload_n 0) 1 11), (11, qx (.getfield 21) 3 14 10 3 2), (14, qe (.iload_n 2) 1 15), (15, qe (.iaload) 1 16), (16, qe (.iload_n 1) 1 17), (17, qx (.if_icmp .ne 5) 3 20 22 0 0)]), (29, [(20, qe (.iload_n 2) 1 21), (21, qe (.ireturn) 1 22), (22, qw (.iinc 2 1) 3 25 1), (25, qx (.goto (-23)) 3 28 2 0 0), (28, qw (.iconst (-1)) 1 29 (-1)), (29, qe (.ireturn) 1 30)])]
noncomputable def mt_102 : pj_T := ((⟨"PegCoats$Works", "manNamed", "(I)I"⟩, prog_12_method_6_code, 3, (some .int)), (10, false), mc_102)
set_option maxRecDepth 100000 in
/-- 103: PegCoats$Works.hasProgram(I)Z -/
noncomputable def mc_103 : pj_M := [(19, [(0, qe (.aload_n 0) 1 1), (1, qx (.getfield 39) 3 4 10 9 2), (4, qe (.iload_n 1) 1 5), (5, qe (.iaload) 1 6), (6, qe (.aload_n 0) 1 7), (7, qx (.getfield 36) 3 10 10 8 2), (10, qe (.iload_n 1) 1 11), (11, qe (.iaload) 1 12), (12, qx (.if_icmp .le 7) 3 15 19 0 0), (15, qw (.iconst 1) 1 16 1), (16, qx (.goto 4) 3 19 20 0 0), (19, qw (.iconst 0) 1 20 0)]), (20, [(20, qe (.ireturn) 1 21)])]
noncomputable def mt_103 : pj_T := ((⟨"PegCoats$Works", "hasProgram", "(I)Z"⟩, prog_12_method_4_code, 2, (some .boolean)), (10, true), mc_103)
set_option maxRecDepth 100000 in
/-- 104: PegCoats$Works.copyFrom(LPegCoats$Works;)V -/
noncomputable def mc_104 : pj_M := [(20, [(0, qe (.aload_n 1) 1 1), (1, qx (.getfield 9) 3 4 10 0 2), (4, qw (.iconst 0) 1 5 0), (5, qe (.aload_n 0) 1 6), (6, qx (.getfield 9) 3 9 10 0 2), (9, qw (.iconst 0) 1 10 0), (10, qw (.bipush 8) 2 12 8), (12, qx (.invokestatic 64) 3 15 1004 5 0), (15, qe (.aload_n 1) 1 16), (16, qx (.getfield 15) 3 19 10 1 2), (19, qw (.iconst 0) 1 20 0), (20, qe (.aload_n 0) 1 21)]), (42, [(21, qx (.getfield 15) 3 24 10 1 2), (24, qw (.iconst 0) 1 25 0), (25, qw (.bipush 8) 2 27 8), (27, qx (.invokestatic 64) 3 30 1004 5 0), (30, qe (.aload_n 1) 1 31), (31, qx (.getfield 18) 3 34 10 2 2), (34, qw (.iconst 0) 1 35 0), (35, qe (.aload_n 0) 1 36), (36, qx (.getfield 18) 3 39 10 2 2), (39, qw (.iconst 0) 1 40 0), (40, qw (.bipush 8) 2 42 8), (42, qx (.invokestatic 64) 3 45 1004 5 0)]), (65, [(45, qe (.aload_n 1) 1 46), (46, qx (.getfield 21) 3 49 10 3 2), (49, qw (.iconst 0) 1 50 0), (50, qe (.aload_n 0) 1 51), (51, qx (.getfield 21) 3 54 10 3 2), (54, qw (.iconst 0) 1 55 0), (55, qw (.bipush 7) 2 57 7), (57, qx (.invokestatic 64) 3 60 1004 5 0), (60, qe (.aload_n 1) 1 61), (61, qx (.getfield 24) 3 64 10 4 2), (64, qw (.iconst 0) 1 65 0), (65, qe (.aload_n 0) 1 66)]), (87, [(66, qx (.getfield 24) 3 69 10 4 2), (69, qw (.iconst 0) 1 70 0), (70, qw (.bipush 7) 2 72 7), (72, qx (.invokestatic 64) 3 75 1004 5 0), (75, qe (.aload_n 1) 1 76), (76, qx (.getfield 27) 3 79 10 5 2), (79, qw (.iconst 0) 1 80 0), (80, qe (.aload_n 0) 1 81), (81, qx (.getfield 27) 3 84 10 5 2), (84, qw (.iconst 0) 1 85 0), (85, qw (.bipush 7) 2 87 7), (87, qx (.invokestatic 64) 3 90 1004 5 0)]), (110, [(90, qe (.aload_n 1) 1 91), (91, qx (.getfield 30) 3 94 10 6 2), (94, qw (.iconst 0) 1 95 0), (95, qe (.aload_n 0) 1 96), (96, qx (.getfield 30) 3 99 10 6 2), (99, qw (.iconst 0) 1 100 0), (100, qw (.bipush 7) 2 102 7), (102, qx (.invokestatic 64) 3 105 1004 5 0), (105, qe (.aload_n 1) 1 106), (106, qx (.getfield 33) 3 109 10 7 2), (109, qw (.iconst 0) 1 110 0), (110, qe (.aload_n 0) 1 111)]), (132, [(111, qx (.getfield 33) 3 114 10 7 2), (114, qw (.iconst 0) 1 115 0), (115, qe (.aload_n 1) 1 116), (116, qx (.getfield 55) 3 119 10 14 0), (119, qx (.invokestatic 64) 3 122 1004 5 0), (122, qe (.aload_n 1) 1 123), (123, qx (.getfield 36) 3 126 10 8 2), (126, qw (.iconst 0) 1 127 0), (127, qe (.aload_n 0) 1 128), (128, qx (.getfield 36) 3 131 10 8 2), (131, qw (.iconst 0) 1 132 0), (132, qw (.iconst 3) 1 133 3)]), (152, [(133, qx (.invokestatic 64) 3 136 1004 5 0), (136, qe (.aload_n 1) 1 137), (137, qx (.getfield 39) 3 140 10 9 2), (140, qw (.iconst 0) 1 141 0), (141, qe (.aload_n 0) 1 142), (142, qx (.getfield 39) 3 145 10 9 2), (145, qw (.iconst 0) 1 146 0), (146, qw (.iconst 3) 1 147 3), (147, qx (.invokestatic 64) 3 150 1004 5 0), (150, qe (.aload_n 0) 1 151), (151, qe (.aload_n 1) 1 152), (152, qx (.getfield 48) 3 155 10 12 0)]), (176, [(155, qx (.putfield 48) 3 158 10 12 0), (158, qe (.aload_n 0) 1 159), (159, qe (.aload_n 1) 1 160), (160, qx (.getfield 52) 3 163 10 13 0), (163, qx (.putfield 52) 3 166 10 13 0), (166, qe (.aload_n 0) 1 167), (167, qe (.aload_n 1) 1 168), (168, qx (.getfield 55) 3 171 10 14 0), (171, qx (.putfield 55) 3 174 10 14 0), (174, qe (.aload_n 0) 1 175), (175, qe (.aload_n 1) 1 176), (176, qx (.getfield 58) 3 179 10 15 0)]), (190, [(179, qx (.putfield 58) 3 182 10 15 0), (182, qe (.aload_n 0) 1 183), (183, qe (.aload_n 1) 1 184), (184, qx (.getfield 61) 3 187 10 16 0), (187, qx (.putfield 61) 3 190 10 16 0), (190, qe (.return_) 1 191)])]
noncomputable def mt_104 : pj_T := ((⟨"PegCoats$Works", "copyFrom", "(LPegCoats$Works;)V"⟩, prog_12_method_3_code, 2, none), (10, false), mc_104)
set_option maxRecDepth 100000 in
/-- 105: PegCoats$Works.warmth(IIIII)I -/
noncomputable def mc_105 : pj_M := [(21, [(0, qe (.iload 4) 2 2), (2, qx (.ifCond .lt 12) 3 5 14 0 0), (5, qe (.iload 4) 2 7), (7, qe (.aload_n 0) 1 8), (8, qx (.getfield 48) 3 11 10 12 0), (11, qx (.if_icmp .lt 5) 3 14 16 0 0), (14, qw (.iconst 0) 1 15 0), (15, qe (.ireturn) 1 16), (16, qe (.aload_n 0) 1 17), (17, qw (.iconst 0) 1 18 0), (18, qx (.invokevirtual 70) 3 21 103 2 10), (21, qx (.ifCond .ne 19) 3 24 40 0 0)]), (41, [(24, qw (.bipush 10) 2 26 10), (26, qe (.iload_n 1) 1 27), (27, qe (.aload_n 0) 1 28), (28, qx (.getfield 15) 3 31 10 1 2), (31, qe (.iload 4) 2 33), (33, qe (.iaload) 1 34), (34, qe (.isub) 1 35), (35, qx (.invokestatic 74) 3 38 1003 1 0), (38, qe (.isub) 1 39), (39, qe (.ireturn) 1 40), (40, qe (.aload_n 0) 1 41), (41, qx (.getfield 42) 3 44 10 10 2)]), (60, [(44, qw (.iconst 1) 1 45 1), (45, qe (.iload_n 1) 1 46), (46, qe (.iastore) 1 47), (47, qe (.aload_n 0) 1 48), (48, qx (.getfield 42) 3 51 10 10 2), (51, qw (.iconst 4) 1 52 4), (52, qe (.iload_n 2) 1 53), (53, qe (.iastore) 1 54), (54, qe (.aload_n 0) 1 55), (55, qx (.getfield 42) 3 58 10 10 2), (58, qw (.bipush 11) 2 60 11), (60, qe (.iload_n 3) 1 61)]), (79, [(61, qe (.iastore) 1 62), (62, qe (.aload_n 0) 1 63), (63, qx (.getfield 42) 3 66 10 10 2), (66, qw (.iconst 0) 1 67 0), (67, qe (.aload_n 0) 1 68), (68, qx (.getfield 15) 3 71 10 1 2), (71, qe (.iload 4) 2 73), (73, qe (.iaload) 1 74), (74, qe (.iastore) 1 75), (75, qe (.aload_n 0) 1 76), (76, qx (.getfield 42) 3 79 10 10 2), (79, qw (.iconst 2) 1 80 2)]), (98, [(80, qe (.aload_n 0) 1 81), (81, qx (.getfield 18) 3 84 10 2 2), (84, qe (.iload 4) 2 86), (86, qe (.iaload) 1 87), (87, qe (.iastore) 1 88), (88, qe (.aload_n 0) 1 89), (89, qx (.getfield 42) 3 92 10 10 2), (92, qw (.bipush 12) 2 94 12), (94, qe (.iload 5) 2 96), (96, qe (.iastore) 1 97), (97, qe (.aload_n 0) 1 98), (98, qw (.iconst 0) 1 99 0)]), (102, [(99, qx (.invokevirtual 80) 3 102 106 2 10), (102, qe (.ireturn) 1 103)])]
noncomputable def mt_105 : pj_T := ((⟨"PegCoats$Works", "warmth", "(IIIII)I"⟩, prog_12_method_8_code, 6, (some .int)), (10, false), mc_105)
set_option maxRecDepth 100000 in
/-- 106: PegCoats$Works.result(I)I -/
noncomputable def mc_106 : pj_M := [(15, [(0, qw (.iconst 3) 1 1 3), (1, qe (.istore_n 2) 1 2), (2, qe (.aload_n 0) 1 3), (3, qx (.getfield 39) 3 6 10 9 2), (6, qe (.iload_n 1) 1 7), (7, qe (.iaload) 1 8), (8, qe (.istore_n 3) 1 9), (9, qe (.aload_n 0) 1 10), (10, qx (.getfield 36) 3 13 10 8 2), (13, qe (.iload_n 1) 1 14), (14, qe (.iaload) 1 15), (15, qe (.istore 4) 2 17)]), (39, [(17, qe (.iload 4) 2 19), (19, qe (.iload_n 3) 1 20), (20, qx (.if_icmp .ge 175) 3 23 195 0 0), (23, qe (.iload_n 2) 1 24), (24, qw (.iconst 3) 1 25 3), (25, qx (.if_icmp .lt 170) 3 28 195 0 0), (28, qe (.iload_n 2) 1 29), (29, qw (.sipush 128) 3 32 128), (32, qx (.if_icmp .ge 163) 3 35 195 0 0), (35, qe (.aload_n 0) 1 36), (36, qx (.getfield 33) 3 39 10 7 2), (39, qe (.iload 4) 2 41)]), (63, [(41, qe (.iaload) 1 42), (42, qe (.istore 5) 2 44), (44, qe (.iload 5) 2 46), (46, qw (.bipush (-30)) 2 48 (-30)), (48, qx (.if_icmp .le 34) 3 51 82 0 0), (51, qe (.aload_n 0) 1 52), (52, qx (.getfield 45) 3 55 10 11 2), (55, qe (.iload_n 2) 1 56), (56, qe (.iload 5) 2 58), (58, qx (.ifCond .lt 8) 3 61 66 0 0), (61, qe (.iload 5) 2 63), (63, qx (.goto 12) 3 66 75 0 0)]), (86, [(66, qe (.aload_n 0) 1 67), (67, qx (.getfield 42) 3 70 10 10 2), (70, qw (.iconst (-1)) 1 71 (-1)), (71, qe (.iload 5) 2 73), (73, qe (.isub) 1 74), (74, qe (.iaload) 1 75), (75, qe (.iastore) 1 76), (76, qw (.iinc 2 1) 3 79 1), (79, qx (.goto 110) 3 82 189 0 0), (82, qe (.iload 5) 2 84), (84, qw (.bipush (-48)) 2 86 (-48)), (86, qx (.if_icmp .ne 24) 3 89 110 0 0)]), (104, [(89, qe (.aload_n 0) 1 90), (90, qx (.getfield 45) 3 93 10 11 2), (93, qe (.iload_n 2) 1 94), (94, qw (.iconst 1) 1 95 1), (95, qe (.isub) 1 96), (96, qw (.iconst 1) 1 97 1), (97, qe (.aload_n 0) 1 98), (98, qx (.getfield 45) 3 101 10 11 2), (101, qe (.iload_n 2) 1 102), (102, qw (.iconst 1) 1 103 1), (103, qe (.isub) 1 104), (104, qe (.iaload) 1 105)]), (126, [(105, qe (.isub) 1 106), (106, qe (.iastore) 1 107), (107, qx (.goto 82) 3 110 189 0 0), (110, qe (.iload 5) 2 112), (112, qw (.bipush (-45)) 2 114 (-45)), (114, qx (.if_icmp .ne 45) 3 117 159 0 0), (117, qw (.iinc 2 (-2)) 3 120 (-2)), (120, qe (.aload_n 0) 1 121), (121, qx (.getfield 45) 3 124 10 11 2), (124, qe (.iload_n 2) 1 125), (125, qw (.iconst 1) 1 126 1), (126, qe (.isub) 1 127)]), (144, [(127, qe (.aload_n 0) 1 128), (128, qx (.getfield 45) 3 131 10 11 2), (131, qe (.iload_n 2) 1 132), (132, qw (.iconst 1) 1 133 1), (133, qe (.isub) 1 134), (134, qe (.iaload) 1 135), (135, qx (.ifCond .eq 12) 3 138 147 0 0), (138, qe (.aload_n 0) 1 139), (139, qx (.getfield 45) 3 142 10 11 2), (142, qe (.iload_n 2) 1 143), (143, qe (.iaload) 1 144), (144, qx (.goto 11) 3 147 155 0 0)]), (166, [(147, qe (.aload_n 0) 1 148), (148, qx (.getfield 45) 3 151 10 11 2), (151, qe (.iload_n 2) 1 152), (152, qw (.iconst 1) 1 153 1), (153, qe (.iadd) 1 154), (154, qe (.iaload) 1 155), (155, qe (.iastore) 1 156), (156, qx (.goto 33) 3 159 189 0 0), (159, qw (.iinc 2 (-1)) 3 162 (-1)), (162, qe (.aload_n 0) 1 163), (163, qx (.getfield 45) 3 166 10 11 2), (166, qe (.iload_n 2) 1 167)]), (183, [(167, qw (.iconst 1) 1 168 1), (168, qe (.isub) 1 169), (169, qe (.iload 5) 2 171), (171, qe (.aload_n 0) 1 172), (172, qx (.getfield 45) 3 175 10 11 2), (175, qe (.iload_n 2) 1 176), (176, qw (.iconst 1) 1 177 1), (177, qe (.isub) 1 178), (178, qe (.iaload) 1 179), (179, qe (.aload_n 0) 1 180), (180, qx (.getfield 45) 3 183 10 11 2), (183, qe (.iload_n 2) 1 184)]), (205, [(184, qe (.iaload) 1 185), (185, qx (.invokestatic 107) 3 188 107 3 0), (188, qe (.iastore) 1 189), (189, qw (.iinc 4 1) 3 192 1), (192, qx (.goto (-175)) 3 195 17 0 0), (195, qe (.iload_n 2) 1 196), (196, qw (.iconst 3) 1 197 3), (197, qx (.if_icmp .le 14) 3 200 211 0 0), (200, qe (.aload_n 0) 1 201), (201, qx (.getfield 45) 3 204 10 11 2), (204, qe (.iload_n 2) 1 205), (205, qw (.iconst 1) 1 206 1)]), (212, [(206, qe (.isub) 1 207), (207, qe (.iaload) 1 208), (208, qx (.goto 4) 3 211 212 0 0), (211, qw (.iconst 0) 1 212 0), (212, qe (.ireturn) 1 213)])]
noncomputable def mt_106 : pj_T := ((⟨"PegCoats$Works", "result", "(I)I"⟩, prog_12_method_11_code, 6, (some .int)), (10, false), mc_106)
set_option maxRecDepth 100000 in
/-- 107: PegCoats$Works.combined(III)I -/
noncomputable def mc_107 : pj_M := [(117, [(0, ql (.lconst 0) 1 1 0), (1, qe (.lstore_n 3) 1 2), (2, qe (.iload_n 0) 1 3), (3, qs (.lookupswitch 310 #[(-162, 250), (-161, 264), (-160, 236), (-147, 132), (-145, 114), (-143, 105), (-142, 123), (-137, 184), (-51, 294), (-50, 278), (-47, 278), (-46, 294)]) 105 108 313 [((-162), 253), ((-161), 267), ((-160), 239), ((-147), 135), ((-145), 117), ((-143), 108), ((-142), 126), ((-137), 187), ((-51), 297), ((-50), 281), ((-47), 281), ((-46), 297)]), (108, qe (.iload_n 1) 1 109), (109, qe (.i2l) 1 110), (110, qe (.iload_n 2) 1 111), (111, qe (.i2l) 1 112), (112, qe (.ladd) 1 113), (113, qe (.lstore_n 3) 1 114), (114, qx (.goto 199) 3 117 313 0 0), (117, qe (.iload_n 1) 1 118)]), (131, [(118, qe (.i2l) 1 119), (119, qe (.iload_n 2) 1 120), (120, qe (.i2l) 1 121), (121, qe (.lsub) 1 122), (122, qe (.lstore_n 3) 1 123), (123, qx (.goto 190) 3 126 313 0 0), (126, qe (.iload_n 1) 1 127), (127, qe (.i2l) 1 128), (128, qe (.iload_n 2) 1 129), (129, qe (.i2l) 1 130), (130, qe (.lmul) 1 131), (131, qe (.lstore_n 3) 1 132)]), (153, [(132, qx (.goto 181) 3 135 313 0 0), (135, qe (.iload_n 2) 1 136), (136, qx (.ifCond .ne 7) 3 139 143 0 0), (139, ql (.lconst 0) 1 140 0), (140, qx (.goto 43) 3 143 183 0 0), (143, qe (.iload_n 1) 1 144), (144, qe (.iload_n 2) 1 145), (145, qe (.irem) 1 146), (146, qx (.ifCond .eq 33) 3 149 179 0 0), (149, qe (.iload_n 1) 1 150), (150, qx (.ifCond .ge 7) 3 153 157 0 0), (153, qw (.iconst 1) 1 154 1)]), (173, [(154, qx (.goto 4) 3 157 158 0 0), (157, qw (.iconst 0) 1 158 0), (158, qe (.iload_n 2) 1 159), (159, qx (.ifCond .ge 7) 3 162 166 0 0), (162, qw (.iconst 1) 1 163 1), (163, qx (.goto 4) 3 166 167 0 0), (166, qw (.iconst 0) 1 167 0), (167, qx (.if_icmp .eq 12) 3 170 179 0 0), (170, qe (.iload_n 1) 1 171), (171, qe (.iload_n 2) 1 172), (172, qe (.idiv) 1 173), (173, qw (.iconst 1) 1 174 1)]), (191, [(174, qe (.isub) 1 175), (175, qe (.i2l) 1 176), (176, qx (.goto 7) 3 179 183 0 0), (179, qe (.iload_n 1) 1 180), (180, qe (.iload_n 2) 1 181), (181, qe (.idiv) 1 182), (182, qe (.i2l) 1 183), (183, qe (.lstore_n 3) 1 184), (184, qx (.goto 129) 3 187 313 0 0), (187, qe (.iload_n 2) 1 188), (188, qx (.ifCond .ne 7) 3 191 195 0 0), (191, ql (.lconst 0) 1 192 0)]), (211, [(192, qx (.goto 43) 3 195 235 0 0), (195, qe (.iload_n 1) 1 196), (196, qe (.iload_n 2) 1 197), (197, qe (.irem) 1 198), (198, qx (.ifCond .eq 33) 3 201 231 0 0), (201, qe (.iload_n 1) 1 202), (202, qx (.ifCond .ge 7) 3 205 209 0 0), (205, qw (.iconst 1) 1 206 1), (206, qx (.goto 4) 3 209 210 0 0), (209, qw (.iconst 0) 1 210 0), (210, qe (.iload_n 2) 1 211), (211, qx (.ifCond .ge 7) 3 214 218 0 0)]), (231, [(214, qw (.iconst 1) 1 215 1), (215, qx (.goto 4) 3 218 219 0 0), (218, qw (.iconst 0) 1 219 0), (219, qx (.if_icmp .eq 12) 3 222 231 0 0), (222, qe (.iload_n 1) 1 223), (223, qe (.iload_n 2) 1 224), (224, qe (.irem) 1 225), (225, qe (.iload_n 2) 1 226), (226, qe (.iadd) 1 227), (227, qe (.i2l) 1 228), (228, qx (.goto 7) 3 231 235 0 0), (231, qe (.iload_n 1) 1 232)]), (249, [(232, qe (.iload_n 2) 1 233), (233, qe (.irem) 1 234), (234, qe (.i2l) 1 235), (235, qe (.lstore_n 3) 1 236), (236, qx (.goto 77) 3 239 313 0 0), (239, qe (.iload_n 1) 1 240), (240, qe (.iload_n 2) 1 241), (241, qx (.if_icmp .ge 7) 3 244 248 0 0), (244, ql (.lconst 1) 1 245 1), (245, qx (.goto 4) 3 248 249 0 0), (248, ql (.lconst 0) 1 249 0), (249, qe (.lstore_n 3) 1 250)]), (269, [(250, qx (.goto 63) 3 253 313 0 0), (253, qe (.iload_n 1) 1 254), (254, qe (.iload_n 2) 1 255), (255, qx (.if_icmp .le 7) 3 258 262 0 0), (258, ql (.lconst 1) 1 259 1), (259, qx (.goto 4) 3 262 263 0 0), (262, ql (.lconst 0) 1 263 0), (263, qe (.lstore_n 3) 1 264), (264, qx (.goto 49) 3 267 313 0 0), (267, qe (.iload_n 1) 1 268), (268, qe (.iload_n 2) 1 269), (269, qx (.if_icmp .ne 7) 3 272 276 0 0)]), (291, [(272, ql (.lconst 1) 1 273 1), (273, qx (.goto 4) 3 276 277 0 0), (276, ql (.lconst 0) 1 277 0), (277, qe (.lstore_n 3) 1 278), (278, qx (.goto 35) 3 281 313 0 0), (281, qe (.iload_n 1) 1 282), (282, qe (.iload_n 2) 1 283), (283, qx (.if_icmp .ge 8) 3 286 291 0 0), (286, qe (.iload_n 1) 1 287), (287, qe (.i2l) 1 288), (288, qx (.goto 5) 3 291 293 0 0), (291, qe (.iload_n 2) 1 292)]), (309, [(292, qe (.i2l) 1 293), (293, qe (.lstore_n 3) 1 294), (294, qx (.goto 19) 3 297 313 0 0), (297, qe (.iload_n 1) 1 298), (298, qe (.iload_n 2) 1 299), (299, qx (.if_icmp .le 8) 3 302 307 0 0), (302, qe (.iload_n 1) 1 303), (303, qe (.i2l) 1 304), (304, qx (.goto 5) 3 307 309 0 0), (307, qe (.iload_n 2) 1 308), (308, qe (.i2l) 1 309), (309, qe (.lstore_n 3) 1 310)]), (334, [(310, qx (.goto 3) 3 313 313 0 0), (313, qe (.lload_n 3) 1 314), (314, ql (.ldc2_w 111) 3 317 1000000), (317, qe (.lcmp) 1 318), (318, qx (.ifCond .le 8) 3 321 326 0 0), (321, qw (.ldc 113) 2 323 1000000), (323, qx (.goto 18) 3 326 341 0 0), (326, qe (.lload_n 3) 1 327), (327, ql (.ldc2_w 114) 3 330 (-1000000)), (330, qe (.lcmp) 1 331), (331, qx (.ifCond .ge 8) 3 334 339 0 0), (334, qw (.ldc 116) 2 336 (-1000000))]), (341, [(336, qx (.goto 5) 3 339 341 0 0), (339, qe (.lload_n 3) 1 340), (340, qe (.l2i) 1 341), (341, qe (.ireturn) 1 342)])]
noncomputable def mt_107 : pj_T := ((⟨"PegCoats$Works", "combined", "(III)I"⟩, prog_12_method_12_code, 5, (some .int)), (10, false), mc_107)
set_option maxRecDepth 100000 in
/-- 108: PegCoats$Works.grownSize(III)I -/
noncomputable def mc_108 : pj_M := [(17, [(0, qe (.aload_n 0) 1 1), (1, qw (.iconst 1) 1 2 1), (2, qx (.invokevirtual 70) 3 5 103 2 10), (5, qx (.ifCond .ne 5) 3 8 10 0 0), (8, qe (.iload_n 1) 1 9), (9, qe (.ireturn) 1 10), (10, qe (.aload_n 0) 1 11), (11, qx (.getfield 42) 3 14 10 10 2), (14, qw (.iconst 1) 1 15 1), (15, qe (.iload_n 1) 1 16), (16, qe (.iastore) 1 17), (17, qe (.aload_n 0) 1 18)]), (35, [(18, qx (.getfield 42) 3 21 10 10 2), (21, qw (.iconst 4) 1 22 4), (22, qe (.iload_n 2) 1 23), (23, qe (.iastore) 1 24), (24, qe (.aload_n 0) 1 25), (25, qx (.getfield 42) 3 28 10 10 2), (28, qw (.bipush 11) 2 30 11), (30, qe (.iload_n 3) 1 31), (31, qe (.iastore) 1 32), (32, qw (.iconst 1) 1 33 1), (33, qw (.bipush 99) 2 35 99), (35, qe (.aload_n 0) 1 36)]), (46, [(36, qw (.iconst 1) 1 37 1), (37, qx (.invokevirtual 80) 3 40 106 2 10), (40, qx (.invokestatic 83) 3 43 1001 2 0), (43, qx (.invokestatic 87) 3 46 1002 2 0), (46, qe (.ireturn) 1 47)])]
noncomputable def mt_108 : pj_T := ((⟨"PegCoats$Works", "grownSize", "(III)I"⟩, prog_12_method_9_code, 4, (some .int)), (10, false), mc_108)
end
section
set_option maxRecDepth 100000 in
/-- 109: PegCoats$Works.isLeaving(LPegCoats$State;I)Z -/
noncomputable def mc_109 : pj_M := [(19, [(0, qe (.aload_n 0) 1 1), (1, qw (.iconst 2) 1 2 2), (2, qx (.invokevirtual 70) 3 5 103 2 10), (5, qx (.ifCond .ne 5) 3 8 10 0 0), (8, qw (.iconst 0) 1 9 0), (9, qe (.ireturn) 1 10), (10, qe (.aload_n 0) 1 11), (11, qx (.getfield 42) 3 14 10 10 2), (14, qw (.iconst 1) 1 15 1), (15, qe (.aload_n 1) 1 16), (16, qx (.getfield 90) 3 19 7 2 2), (19, qe (.iload_n 2) 1 20)]), (35, [(20, qe (.iaload) 1 21), (21, qe (.iastore) 1 22), (22, qe (.aload_n 0) 1 23), (23, qx (.getfield 42) 3 26 10 10 2), (26, qw (.iconst 4) 1 27 4), (27, qe (.aload_n 1) 1 28), (28, qx (.getfield 95) 3 31 7 3 2), (31, qe (.iload_n 2) 1 32), (32, qe (.iaload) 1 33), (33, qe (.iastore) 1 34), (34, qe (.aload_n 0) 1 35), (35, qx (.getfield 42) 3 38 10 10 2)]), (57, [(38, qw (.bipush 11) 2 40 11), (40, qe (.aload_n 1) 1 41), (41, qx (.getfield 98) 3 44 7 7 0), (44, qe (.iastore) 1 45), (45, qe (.aload_n 0) 1 46), (46, qx (.getfield 42) 3 49 10 10 2), (49, qw (.bipush 13) 2 51 13), (51, qe (.aload_n 1) 1 52), (52, qx (.getfield 101) 3 55 7 5 2), (55, qe (.iload_n 2) 1 56), (56, qe (.iaload) 1 57), (57, qe (.iastore) 1 58)]), (78, [(58, qe (.aload_n 0) 1 59), (59, qx (.getfield 42) 3 62 10 10 2), (62, qw (.bipush 14) 2 64 14), (64, qe (.aload_n 1) 1 65), (65, qx (.getfield 104) 3 68 7 4 2), (68, qe (.iload_n 2) 1 69), (69, qe (.iaload) 1 70), (70, qw (.iconst (-1)) 1 71 (-1)), (71, qx (.if_icmp .ne 7) 3 74 78 0 0), (74, qw (.iconst 0) 1 75 0), (75, qx (.goto 4) 3 78 79 0 0), (78, qw (.iconst 1) 1 79 1)]), (93, [(79, qe (.iastore) 1 80), (80, qe (.aload_n 0) 1 81), (81, qw (.iconst 2) 1 82 2), (82, qx (.invokevirtual 80) 3 85 106 2 10), (85, qx (.ifCond .eq 7) 3 88 92 0 0), (88, qw (.iconst 1) 1 89 1), (89, qx (.goto 4) 3 92 93 0 0), (92, qw (.iconst 0) 1 93 0), (93, qe (.ireturn) 1 94)])]
noncomputable def mt_109 : pj_T := ((⟨"PegCoats$Works", "isLeaving", "(LPegCoats$State;I)Z"⟩, prog_12_method_10_code, 3, (some .boolean)), (10, true), mc_109)
set_option maxRecDepth 100000 in
/-- 110: PegCoats.<init>()V -/
noncomputable def mc_110 : pj_M := [(23, [(0, qe (.aload_n 0) 1 1), (1, qx (.invokespecial 3) 3 4 1000 1 0), (4, qe (.aload_n 0) 1 5), (5, qx (.new 9) 3 8 8 2 0), (8, qe (.dup) 1 9), (9, qx (.invokespecial 11) 3 12 81 1 8), (12, qx (.putfield 12) 3 15 11 0 2), (15, qe (.aload_n 0) 1 16), (16, qx (.new 16) 3 19 10 17 0), (19, qe (.dup) 1 20), (20, qx (.invokespecial 18) 3 23 98 1 10), (23, qx (.putfield 19) 3 26 11 1 2)]), (47, [(26, qe (.aload_n 0) 1 27), (27, qx (.new 16) 3 30 10 17 0), (30, qe (.dup) 1 31), (31, qx (.invokespecial 18) 3 34 98 1 10), (34, qx (.putfield 23) 3 37 11 2 2), (37, qe (.aload_n 0) 1 38), (38, qx (.new 26) 3 41 5 6 0), (41, qe (.dup) 1 42), (42, qe (.aload_n 0) 1 43), (43, qx (.getfield 12) 3 46 11 0 2), (46, qe (.aload_n 0) 1 47), (47, qx (.getfield 23) 3 50 11 2 2)]), (75, [(50, qx (.invokespecial 28) 3 53 35 3 5), (53, qx (.putfield 31) 3 56 11 3 2), (56, qe (.aload_n 0) 1 57), (57, qx (.new 35) 3 60 0 3 0), (60, qe (.dup) 1 61), (61, qe (.aload_n 0) 1 62), (62, qx (.getfield 19) 3 65 11 1 2), (65, qx (.invokespecial 37) 3 68 1 2 0), (68, qx (.putfield 40) 3 71 11 4 2), (71, qe (.aload_n 0) 1 72), (72, qx (.new 44) 3 75 7 9 0), (75, qe (.dup) 1 76)]), (101, [(76, qx (.invokespecial 46) 3 79 70 1 7), (79, qx (.putfield 47) 3 82 11 5 2), (82, qe (.aload_n 0) 1 83), (83, qx (.new 44) 3 86 7 9 0), (86, qe (.dup) 1 87), (87, qx (.invokespecial 46) 3 90 70 1 7), (90, qx (.putfield 51) 3 93 11 6 2), (93, qe (.aload_n 0) 1 94), (94, qx (.new 44) 3 97 7 9 0), (97, qe (.dup) 1 98), (98, qx (.invokespecial 46) 3 101 70 1 7), (101, qx (.putfield 54) 3 104 11 7 2)]), (127, [(104, qe (.aload_n 0) 1 105), (105, qx (.new 57) 3 108 1 3 0), (108, qe (.dup) 1 109), (109, qx (.invokespecial 59) 3 112 8 1 1), (112, qx (.putfield 60) 3 115 11 8 2), (115, qe (.aload_n 0) 1 116), (116, qx (.new 64) 3 119 2 3 0), (119, qe (.dup) 1 120), (120, qe (.aload_n 0) 1 121), (121, qx (.getfield 19) 3 124 11 1 2), (124, qx (.invokespecial 66) 3 127 12 2 2), (127, qx (.putfield 67) 3 130 11 9 2)]), (151, [(130, qe (.aload_n 0) 1 131), (131, qx (.new 71) 3 134 3 5 0), (134, qe (.dup) 1 135), (135, qe (.aload_n 0) 1 136), (136, qx (.getfield 19) 3 139 11 1 2), (139, qx (.invokespecial 73) 3 142 19 2 3), (142, qx (.putfield 74) 3 145 11 10 2), (145, qe (.aload_n 0) 1 146), (146, qx (.new 78) 3 149 9 12 0), (149, qe (.dup) 1 150), (150, qe (.aload_n 0) 1 151), (151, qx (.getfield 19) 3 154 11 1 2)]), (179, [(154, qe (.aload_n 0) 1 155), (155, qx (.getfield 40) 3 158 11 4 2), (158, qx (.invokespecial 80) 3 161 87 3 9), (161, qx (.putfield 83) 3 164 11 11 2), (164, qe (.aload_n 0) 1 165), (165, qx (.new 87) 3 168 4 3 0), (168, qe (.dup) 1 169), (169, qe (.aload_n 0) 1 170), (170, qx (.getfield 19) 3 173 11 1 2), (173, qx (.invokespecial 89) 3 176 28 2 4), (176, qx (.putfield 90) 3 179 11 12 2), (179, qe (.aload_n 0) 1 180)]), (202, [(180, qw (.sipush 999) 3 183 999), (183, qx (.newarray .int) 2 185 13 0 0), (185, qx (.putfield 94) 3 188 11 13 2), (188, qe (.aload_n 0) 1 189), (189, qw (.bipush 6) 2 191 6), (191, qx (.newarray .int) 2 193 13 0 0), (193, qx (.putfield 98) 3 196 11 14 2), (196, qe (.aload_n 0) 1 197), (197, qw (.iconst 1) 1 198 1), (198, qx (.putfield 101) 3 201 11 15 0), (201, qe (.aload_n 0) 1 202), (202, qx (.getfield 47) 3 205 11 5 2)]), (212, [(205, qe (.aload_n 0) 1 206), (206, qx (.getfield 19) 3 209 11 1 2), (209, qx (.invokevirtual 105) 3 212 71 2 7), (212, qe (.return_) 1 213)])]
noncomputable def mt_110 : pj_T := ((⟨"PegCoats", "<init>", "()V"⟩, prog_1_method_1_code, 1, none), (11, false), mc_110)
set_option maxRecDepth 100000 in
/-- 111: PegCoats.feed(IIIII)I -/
noncomputable def mc_111 : pj_M := [(22, [(0, qe (.aload_n 0) 1 1), (1, qx (.getfield 12) 3 4 11 0 2), (4, qw (.bipush 20) 2 6 20), (6, qx (.invokevirtual 108) 3 9 82 2 8), (9, qx (.ifCond .ne 9) 3 12 18 0 0), (12, qe (.aload_n 0) 1 13), (13, qw (.iconst 0) 1 14 0), (14, qx (.invokevirtual 112) 3 17 112 2 11), (17, qe (.ireturn) 1 18), (18, qe (.aload_n 0) 1 19), (19, qx (.getfield 12) 3 22 11 0 2), (22, qe (.iload_n 1) 1 23)]), (46, [(23, qx (.invokevirtual 116) 3 26 83 2 8), (26, qe (.aload_n 0) 1 27), (27, qx (.getfield 12) 3 30 11 0 2), (30, qe (.iload_n 2) 1 31), (31, qx (.invokevirtual 116) 3 34 83 2 8), (34, qe (.aload_n 0) 1 35), (35, qx (.getfield 12) 3 38 11 0 2), (38, qe (.iload_n 3) 1 39), (39, qx (.invokevirtual 116) 3 42 83 2 8), (42, qe (.aload_n 0) 1 43), (43, qx (.getfield 12) 3 46 11 0 2), (46, qe (.iload 4) 2 48)]), (67, [(48, qx (.invokevirtual 116) 3 51 83 2 8), (51, qe (.aload_n 0) 1 52), (52, qx (.getfield 12) 3 55 11 0 2), (55, qe (.iload 5) 2 57), (57, qx (.invokevirtual 116) 3 60 83 2 8), (60, qe (.aload_n 0) 1 61), (61, qx (.getfield 12) 3 64 11 0 2), (64, qx (.getfield 120) 3 67 8 1 0), (67, qe (.ireturn) 1 68)])]
noncomputable def mt_111 : pj_T := ((⟨"PegCoats", "feed", "(IIIII)I"⟩, prog_1_method_2_code, 6, (some .int)), (11, false), mc_111)
set_option maxRecDepth 100000 in
/-- 112: PegCoats.refuse(I)I -/
noncomputable def mc_112 : pj_M := [(11, [(0, qe (.aload_n 0) 1 1), (1, qx (.getfield 98) 3 4 11 14 2), (4, qe (.iload_n 1) 1 5), (5, qe (.dup2) 1 6), (6, qe (.iaload) 1 7), (7, qw (.iconst 1) 1 8 1), (8, qe (.iadd) 1 9), (9, qe (.iastore) 1 10), (10, qw (.iconst (-1)) 1 11 (-1)), (11, qe (.ireturn) 1 12)])]
noncomputable def mt_112 : pj_T := ((⟨"PegCoats", "refuse", "(I)I"⟩, prog_1_method_34_code, 2, (some .int)), (11, false), mc_112)
set_option maxRecDepth 100000 in
/-- 113: PegCoats.end(I)Z -/
noncomputable def mc_113 : pj_M := [(23, [(0, qe (.aload_n 0) 1 1), (1, qx (.getfield 12) 3 4 11 0 2), (4, qe (.iload_n 1) 1 5), (5, qx (.invokevirtual 123) 3 8 84 2 8), (8, qx (.ifCond .ne 11) 3 11 19 0 0), (11, qe (.aload_n 0) 1 12), (12, qw (.iconst 0) 1 13 0), (13, qx (.invokevirtual 126) 3 16 114 2 11), (16, qx (.ifCond .eq 7) 3 19 23 0 0), (19, qw (.iconst 1) 1 20 1), (20, qx (.goto 4) 3 23 24 0 0), (23, qw (.iconst 0) 1 24 0)]), (24, [(24, qe (.ireturn) 1 25)])]
noncomputable def mt_113 : pj_T := ((⟨"PegCoats", "end", "(I)Z"⟩, prog_1_method_3_code, 2, (some .boolean)), (11, true), mc_113)
set_option maxRecDepth 100000 in
/-- 114: PegCoats.deny(I)Z -/
noncomputable def mc_114 : pj_M := [(11, [(0, qe (.aload_n 0) 1 1), (1, qx (.getfield 98) 3 4 11 14 2), (4, qe (.iload_n 1) 1 5), (5, qe (.dup2) 1 6), (6, qe (.iaload) 1 7), (7, qw (.iconst 1) 1 8 1), (8, qe (.iadd) 1 9), (9, qe (.iastore) 1 10), (10, qw (.iconst 0) 1 11 0), (11, qe (.ireturn) 1 12)])]
noncomputable def mt_114 : pj_T := ((⟨"PegCoats", "deny", "(I)Z"⟩, prog_1_method_35_code, 2, (some .boolean)), (11, true), mc_114)
set_option maxRecDepth 100000 in
/-- 115: PegCoats.works()I -/
noncomputable def mc_115 : pj_M := [(25, [(0, qe (.aload_n 0) 1 1), (1, qx (.getfield 31) 3 4 11 3 2), (4, qx (.invokevirtual 129) 3 7 36 1 5), (7, qe (.aload_n 0) 1 8), (8, qx (.getfield 12) 3 11 11 0 2), (11, qx (.invokevirtual 132) 3 14 86 1 8), (14, qe (.aload_n 0) 1 15), (15, qx (.getfield 31) 3 18 11 3 2), (18, qx (.invokevirtual 135) 3 21 37 1 5), (21, qx (.ifCond .eq 9) 3 24 30 0 0), (24, qe (.aload_n 0) 1 25), (25, qw (.iconst 1) 1 26 1)]), (49, [(26, qx (.invokevirtual 112) 3 29 112 2 11), (29, qe (.ireturn) 1 30), (30, qe (.aload_n 0) 1 31), (31, qx (.getfield 19) 3 34 11 1 2), (34, qe (.aload_n 0) 1 35), (35, qx (.getfield 23) 3 38 11 2 2), (38, qx (.invokevirtual 139) 3 41 104 2 10), (41, qe (.aload_n 0) 1 42), (42, qx (.getfield 47) 3 45 11 5 2), (45, qe (.aload_n 0) 1 46), (46, qx (.getfield 19) 3 49 11 1 2), (49, qx (.invokevirtual 105) 3 52 71 2 7)]), (73, [(52, qe (.aload_n 0) 1 53), (53, qx (.getfield 60) 3 56 11 8 2), (56, qx (.invokevirtual 142) 3 59 9 1 1), (59, qe (.aload_n 0) 1 60), (60, qx (.getfield 83) 3 63 11 11 2), (63, qx (.invokevirtual 143) 3 66 88 1 9), (66, qe (.aload_n 0) 1 67), (67, qx (.getfield 19) 3 70 11 1 2), (70, qx (.getfield 146) 3 73 10 16 0), (73, qe (.ireturn) 1 74)])]
noncomputable def mt_115 : pj_T := ((⟨"PegCoats", "works", "()I"⟩, prog_1_method_4_code, 1, (some .int)), (11, false), mc_115)
set_option maxRecDepth 100000 in
/-- 116: PegCoats.fault(I)I -/
noncomputable def mc_116 : pj_M := [(45, [(0, qe (.iload_n 1) 1 1), (1, qs (.lookupswitch 43 #[(0, 27), (1, 35)]) 27 28 44 [(0, 28), (1, 36)]), (28, qe (.aload_n 0) 1 29), (29, qx (.getfield 31) 3 32 11 3 2), (32, qx (.getfield 149) 3 35 5 2 0), (35, qe (.ireturn) 1 36), (36, qe (.aload_n 0) 1 37), (37, qx (.getfield 31) 3 40 11 3 2), (40, qx (.getfield 152) 3 43 5 3 0), (43, qe (.ireturn) 1 44), (44, qw (.iconst (-1)) 1 45 (-1)), (45, qe (.ireturn) 1 46)])]
noncomputable def mt_116 : pj_T := ((⟨"PegCoats", "fault", "(I)I"⟩, prog_1_method_5_code, 2, (some .int)), (11, false), mc_116)
set_option maxRecDepth 100000 in
/-- 117: PegCoats.has(I)I -/
noncomputable def mc_117 : pj_M := [(77, [(0, qe (.iload_n 1) 1 1), (1, qs (.tableswitch 172 0 10 #[59, 67, 75, 83, 98, 116, 131, 146, 151, 159, 167]) 59 60 173 [(0, 60), (1, 68), (2, 76), (3, 84), (4, 99), (5, 117), (6, 132), (7, 147), (8, 152), (9, 160), (10, 168)]), (60, qe (.aload_n 0) 1 61), (61, qx (.getfield 19) 3 64 11 1 2), (64, qx (.getfield 155) 3 67 10 12 0), (67, qe (.ireturn) 1 68), (68, qe (.aload_n 0) 1 69), (69, qx (.getfield 19) 3 72 11 1 2), (72, qx (.getfield 158) 3 75 10 13 0), (75, qe (.ireturn) 1 76), (76, qe (.aload_n 0) 1 77), (77, qx (.getfield 47) 3 80 11 5 2)]), (103, [(80, qx (.getfield 161) 3 83 7 7 0), (83, qe (.ireturn) 1 84), (84, qe (.aload_n 0) 1 85), (85, qx (.getfield 47) 3 88 11 5 2), (88, qe (.aload_n 0) 1 89), (89, qx (.getfield 19) 3 92 11 1 2), (92, qx (.getfield 158) 3 95 10 13 0), (95, qx (.invokevirtual 164) 3 98 72 2 7), (98, qe (.ireturn) 1 99), (99, qe (.aload_n 0) 1 100), (100, qx (.getfield 47) 3 103 11 5 2), (103, qe (.aload_n 0) 1 104)]), (131, [(104, qx (.getfield 19) 3 107 11 1 2), (107, qx (.getfield 158) 3 110 10 13 0), (110, qx (.invokevirtual 167) 3 113 73 2 7), (113, qx (.invokestatic 170) 3 116 265 1 0), (116, qe (.ireturn) 1 117), (117, qe (.aload_n 0) 1 118), (118, qx (.getfield 47) 3 121 11 5 2), (121, qe (.aload_n 0) 1 122), (122, qx (.getfield 19) 3 125 11 1 2), (125, qx (.invokevirtual 175) 3 128 74 2 7), (128, qx (.invokestatic 170) 3 131 265 1 0), (131, qe (.ireturn) 1 132)]), (153, [(132, qe (.aload_n 0) 1 133), (133, qx (.getfield 47) 3 136 11 5 2), (136, qe (.aload_n 0) 1 137), (137, qx (.getfield 19) 3 140 11 1 2), (140, qx (.getfield 155) 3 143 10 12 0), (143, qx (.invokevirtual 179) 3 146 75 2 7), (146, qe (.ireturn) 1 147), (147, qe (.aload_n 0) 1 148), (148, qx (.invokevirtual 182) 3 151 118 1 11), (151, qe (.ireturn) 1 152), (152, qe (.aload_n 0) 1 153), (153, qx (.getfield 83) 3 156 11 11 2)]), (174, [(156, qx (.getfield 186) 3 159 9 4 0), (159, qe (.ireturn) 1 160), (160, qe (.aload_n 0) 1 161), (161, qx (.getfield 60) 3 164 11 8 2), (164, qx (.getfield 189) 3 167 1 1 0), (167, qe (.ireturn) 1 168), (168, qe (.aload_n 0) 1 169), (169, qx (.getfield 101) 3 172 11 15 0), (172, qe (.ireturn) 1 173), (173, qw (.iconst (-1)) 1 174 (-1)), (174, qe (.ireturn) 1 175)])]
noncomputable def mt_117 : pj_T := ((⟨"PegCoats", "has", "(I)I"⟩, prog_1_method_6_code, 2, (some .int)), (11, false), mc_117)
set_option maxRecDepth 100000 in
/-- 118: PegCoats.toldAsKept()I -/
noncomputable def mc_118 : pj_M := [(12, [(0, qe (.aload_n 0) 1 1), (1, qx (.getfield 47) 3 4 11 5 2), (4, qx (.getfield 338) 3 7 7 8 0), (7, qw (.bipush 40) 2 9 40), (9, qx (.invokestatic 359) 3 12 1001 2 0), (12, qe (.ireturn) 1 13)])]
noncomputable def mt_118 : pj_T := ((⟨"PegCoats", "toldAsKept", "()I"⟩, prog_1_method_44_code, 1, (some .int)), (11, false), mc_118)
set_option maxRecDepth 100000 in
/-- 119: PegCoats.letter(III)I -/
noncomputable def mc_119 : pj_M := [(18, [(0, qe (.iload_n 3) 1 1), (1, qx (.ifCond .lt 9) 3 4 10 0 0), (4, qe (.iload_n 3) 1 5), (5, qw (.bipush 6) 2 7 6), (7, qx (.if_icmp .lt 5) 3 10 12 0 0), (10, qw (.iconst (-1)) 1 11 (-1)), (11, qe (.ireturn) 1 12), (12, qe (.iload_n 1) 1 13), (13, qx (.ifCond .ne 25) 3 16 38 0 0), (16, qe (.aload_n 0) 1 17), (17, qe (.iload_n 2) 1 18), (18, qx (.invokevirtual 192) 3 21 120 2 11)]), (40, [(21, qx (.ifCond .eq 17) 3 24 38 0 0), (24, qe (.aload_n 0) 1 25), (25, qx (.getfield 19) 3 28 11 1 2), (28, qx (.getfield 195) 3 31 10 0 2), (31, qe (.iload_n 2) 1 32), (32, qe (.iaload) 1 33), (33, qe (.iload_n 3) 1 34), (34, qx (.invokestatic 198) 3 37 121 2 0), (37, qe (.ireturn) 1 38), (38, qe (.iload_n 1) 1 39), (39, qw (.iconst 1) 1 40 1), (40, qx (.if_icmp .ne 25) 3 43 65 0 0)]), (64, [(43, qe (.aload_n 0) 1 44), (44, qe (.iload_n 2) 1 45), (45, qx (.invokevirtual 202) 3 48 122 2 11), (48, qx (.ifCond .eq 17) 3 51 65 0 0), (51, qe (.aload_n 0) 1 52), (52, qx (.getfield 19) 3 55 11 1 2), (55, qx (.getfield 205) 3 58 10 3 2), (58, qe (.iload_n 2) 1 59), (59, qe (.iaload) 1 60), (60, qe (.iload_n 3) 1 61), (61, qx (.invokestatic 198) 3 64 121 2 0), (64, qe (.ireturn) 1 65)]), (66, [(65, qw (.iconst (-1)) 1 66 (-1)), (66, qe (.ireturn) 1 67)])]
noncomputable def mt_119 : pj_T := ((⟨"PegCoats", "letter", "(III)I"⟩, prog_1_method_7_code, 4, (some .int)), (11, false), mc_119)
set_option maxRecDepth 100000 in
/-- 120: PegCoats.isCoat(I)Z -/
noncomputable def mc_120 : pj_M := [(20, [(0, qe (.iload_n 1) 1 1), (1, qx (.ifCond .lt 18) 3 4 19 0 0), (4, qe (.iload_n 1) 1 5), (5, qe (.aload_n 0) 1 6), (6, qx (.getfield 19) 3 9 11 1 2), (9, qx (.getfield 155) 3 12 10 12 0), (12, qx (.if_icmp .ge 7) 3 15 19 0 0), (15, qw (.iconst 1) 1 16 1), (16, qx (.goto 4) 3 19 20 0 0), (19, qw (.iconst 0) 1 20 0), (20, qe (.ireturn) 1 21)])]
noncomputable def mt_120 : pj_T := ((⟨"PegCoats", "isCoat", "(I)Z"⟩, prog_1_method_36_code, 2, (some .boolean)), (11, true), mc_120)
set_option maxRecDepth 100000 in
/-- 121: PegCoats.letterOf(II)I -/
noncomputable def mc_121 : pj_M := [(10, [(0, qe (.iload_n 0) 1 1), (1, qw (.iconst 5) 1 2 5), (2, qw (.iconst 5) 1 3 5), (3, qe (.iload_n 1) 1 4), (4, qe (.isub) 1 5), (5, qe (.imul) 1 6), (6, qe (.ishr) 1 7), (7, qw (.bipush 31) 2 9 31), (9, qe (.iand) 1 10), (10, qe (.ireturn) 1 11)])]
noncomputable def mt_121 : pj_T := ((⟨"PegCoats", "letterOf", "(II)I"⟩, prog_1_method_48_code, 2, (some .int)), (11, false), mc_121)
set_option maxRecDepth 100000 in
/-- 122: PegCoats.isMan(I)Z -/
noncomputable def mc_122 : pj_M := [(20, [(0, qe (.iload_n 1) 1 1), (1, qx (.ifCond .lt 18) 3 4 19 0 0), (4, qe (.iload_n 1) 1 5), (5, qe (.aload_n 0) 1 6), (6, qx (.getfield 19) 3 9 11 1 2), (9, qx (.getfield 158) 3 12 10 13 0), (12, qx (.if_icmp .ge 7) 3 15 19 0 0), (15, qw (.iconst 1) 1 16 1), (16, qx (.goto 4) 3 19 20 0 0), (19, qw (.iconst 0) 1 20 0), (20, qe (.ireturn) 1 21)])]
noncomputable def mt_122 : pj_T := ((⟨"PegCoats", "isMan", "(I)Z"⟩, prog_1_method_37_code, 2, (some .boolean)), (11, true), mc_122)
set_option maxRecDepth 100000 in
/-- 123: PegCoats.coat(II)I -/
noncomputable def mc_123 : pj_M := [(51, [(0, qe (.aload_n 0) 1 1), (1, qe (.iload_n 1) 1 2), (2, qx (.invokevirtual 192) 3 5 120 2 11), (5, qx (.ifCond .ne 5) 3 8 10 0 0), (8, qw (.iconst (-1)) 1 9 (-1)), (9, qe (.ireturn) 1 10), (10, qe (.iload_n 2) 1 11), (11, qs (.tableswitch 97 0 4 #[33, 43, 53, 63, 81]) 33 44 108 [(0, 44), (1, 54), (2, 64), (3, 74), (4, 92)]), (44, qe (.aload_n 0) 1 45), (45, qx (.getfield 19) 3 48 11 1 2), (48, qx (.getfield 208) 3 51 10 1 2), (51, qe (.iload_n 1) 1 52)]), (71, [(52, qe (.iaload) 1 53), (53, qe (.ireturn) 1 54), (54, qe (.aload_n 0) 1 55), (55, qx (.getfield 19) 3 58 11 1 2), (58, qx (.getfield 211) 3 61 10 2 2), (61, qe (.iload_n 1) 1 62), (62, qe (.iaload) 1 63), (63, qe (.ireturn) 1 64), (64, qe (.aload_n 0) 1 65), (65, qx (.getfield 47) 3 68 11 5 2), (68, qx (.getfield 214) 3 71 7 0 2), (71, qe (.iload_n 1) 1 72)]), (91, [(72, qe (.iaload) 1 73), (73, qe (.ireturn) 1 74), (74, qe (.aload_n 0) 1 75), (75, qx (.getfield 47) 3 78 11 5 2), (78, qx (.getfield 217) 3 81 7 1 2), (81, qe (.iload_n 1) 1 82), (82, qe (.baload) 1 83), (83, qx (.ifCond .eq 7) 3 86 90 0 0), (86, qw (.iconst 1) 1 87 1), (87, qx (.goto 4) 3 90 91 0 0), (90, qw (.iconst 0) 1 91 0), (91, qe (.ireturn) 1 92)]), (109, [(92, qe (.aload_n 0) 1 93), (93, qx (.getfield 47) 3 96 11 5 2), (96, qe (.iload_n 1) 1 97), (97, qe (.aload_n 0) 1 98), (98, qx (.getfield 19) 3 101 11 1 2), (101, qx (.getfield 158) 3 104 10 13 0), (104, qx (.invokevirtual 221) 3 107 76 3 7), (107, qe (.ireturn) 1 108), (108, qw (.iconst (-1)) 1 109 (-1)), (109, qe (.ireturn) 1 110)])]
noncomputable def mt_123 : pj_T := ((⟨"PegCoats", "coat", "(II)I"⟩, prog_1_method_8_code, 3, (some .int)), (11, false), mc_123)
set_option maxRecDepth 100000 in
/-- 124: PegCoats.man(II)I -/
noncomputable def mc_124 : pj_M := [(51, [(0, qe (.aload_n 0) 1 1), (1, qe (.iload_n 1) 1 2), (2, qx (.invokevirtual 202) 3 5 122 2 11), (5, qx (.ifCond .ne 5) 3 8 10 0 0), (8, qw (.iconst (-1)) 1 9 (-1)), (9, qe (.ireturn) 1 10), (10, qe (.iload_n 2) 1 11), (11, qs (.tableswitch 91 0 4 #[33, 43, 53, 63, 73]) 33 44 102 [(0, 44), (1, 54), (2, 64), (3, 74), (4, 84)]), (44, qe (.aload_n 0) 1 45), (45, qx (.getfield 47) 3 48 11 5 2), (48, qx (.getfield 224) 3 51 7 2 2), (51, qe (.iload_n 1) 1 52)]), (71, [(52, qe (.iaload) 1 53), (53, qe (.ireturn) 1 54), (54, qe (.aload_n 0) 1 55), (55, qx (.getfield 47) 3 58 11 5 2), (58, qx (.getfield 227) 3 61 7 3 2), (61, qe (.iload_n 1) 1 62), (62, qe (.iaload) 1 63), (63, qe (.ireturn) 1 64), (64, qe (.aload_n 0) 1 65), (65, qx (.getfield 47) 3 68 11 5 2), (68, qx (.getfield 230) 3 71 7 4 2), (71, qe (.iload_n 1) 1 72)]), (91, [(72, qe (.iaload) 1 73), (73, qe (.ireturn) 1 74), (74, qe (.aload_n 0) 1 75), (75, qx (.getfield 47) 3 78 11 5 2), (78, qx (.getfield 233) 3 81 7 5 2), (81, qe (.iload_n 1) 1 82), (82, qe (.iaload) 1 83), (83, qe (.ireturn) 1 84), (84, qe (.aload_n 0) 1 85), (85, qx (.getfield 47) 3 88 11 5 2), (88, qx (.getfield 236) 3 91 7 6 2), (91, qe (.iload_n 1) 1 92)]), (103, [(92, qe (.baload) 1 93), (93, qx (.ifCond .eq 7) 3 96 100 0 0), (96, qw (.iconst 1) 1 97 1), (97, qx (.goto 4) 3 100 101 0 0), (100, qw (.iconst 0) 1 101 0), (101, qe (.ireturn) 1 102), (102, qw (.iconst (-1)) 1 103 (-1)), (103, qe (.ireturn) 1 104)])]
noncomputable def mt_124 : pj_T := ((⟨"PegCoats", "man", "(II)I"⟩, prog_1_method_9_code, 3, (some .int)), (11, false), mc_124)
set_option maxRecDepth 100000 in
/-- 125: PegCoats.warms(II)J -/
noncomputable def mc_125 : pj_M := [(21, [(0, qe (.aload_n 0) 1 1), (1, qe (.iload_n 1) 1 2), (2, qx (.invokevirtual 202) 3 5 122 2 11), (5, qx (.ifCond .eq 11) 3 8 16 0 0), (8, qe (.aload_n 0) 1 9), (9, qe (.iload_n 2) 1 10), (10, qx (.invokevirtual 192) 3 13 120 2 11), (13, qx (.ifCond .ne 7) 3 16 20 0 0), (16, ql (.ldc2_w 239) 3 19 (-1000000000000000)), (19, qe (.lreturn) 1 20), (20, qe (.aload_n 0) 1 21), (21, qx (.getfield 19) 3 24 11 1 2)]), (43, [(24, qe (.aload_n 0) 1 25), (25, qx (.getfield 47) 3 28 11 5 2), (28, qx (.getfield 224) 3 31 7 2 2), (31, qe (.iload_n 1) 1 32), (32, qe (.iaload) 1 33), (33, qe (.aload_n 0) 1 34), (34, qx (.getfield 47) 3 37 11 5 2), (37, qx (.getfield 227) 3 40 7 3 2), (40, qe (.iload_n 1) 1 41), (41, qe (.iaload) 1 42), (42, qe (.aload_n 0) 1 43), (43, qx (.getfield 47) 3 46 11 5 2)]), (63, [(46, qx (.getfield 161) 3 49 7 7 0), (49, qe (.iload_n 2) 1 50), (50, qe (.aload_n 0) 1 51), (51, qx (.getfield 47) 3 54 11 5 2), (54, qx (.getfield 214) 3 57 7 0 2), (57, qe (.iload_n 2) 1 58), (58, qe (.iaload) 1 59), (59, qx (.invokevirtual 241) 3 62 105 6 10), (62, qe (.i2l) 1 63), (63, qe (.lreturn) 1 64)])]
noncomputable def mt_125 : pj_T := ((⟨"PegCoats", "warms", "(II)J"⟩, prog_1_method_10_code, 3, (some .long)), (11, false), mc_125)
set_option maxRecDepth 100000 in
/-- 126: PegCoats.later(II)I -/
noncomputable def mc_126 : pj_M := [(20, [(0, qe (.aload_n 0) 1 1), (1, qe (.iload_n 1) 1 2), (2, qx (.invokevirtual 202) 3 5 122 2 11), (5, qx (.ifCond .eq 14) 3 8 19 0 0), (8, qe (.aload_n 0) 1 9), (9, qe (.iload_n 2) 1 10), (10, qw (.iconst 0) 1 11 0), (11, qw (.bipush 40) 2 13 40), (13, qx (.invokevirtual 245) 3 16 127 4 11), (16, qx (.ifCond .ne 5) 3 19 21 0 0), (19, qw (.iconst (-1)) 1 20 (-1)), (20, qe (.ireturn) 1 21)]), (35, [(21, qe (.aload_n 0) 1 22), (22, qe (.iload_n 2) 1 23), (23, qx (.invokevirtual 249) 3 26 128 2 11), (26, qe (.aload_n 0) 1 27), (27, qx (.getfield 51) 3 30 11 6 2), (30, qx (.getfield 230) 3 33 7 4 2), (33, qe (.iload_n 1) 1 34), (34, qe (.iaload) 1 35), (35, qe (.ireturn) 1 36)])]
noncomputable def mt_126 : pj_T := ((⟨"PegCoats", "later", "(II)I"⟩, prog_1_method_11_code, 3, (some .int)), (11, false), mc_126)
set_option maxRecDepth 100000 in
/-- 127: PegCoats.canCome(III)Z -/
noncomputable def mc_127 : pj_M := [(19, [(0, qe (.iload_n 1) 1 1), (1, qe (.iload_n 2) 1 2), (2, qx (.if_icmp .lt 27) 3 5 29 0 0), (5, qe (.iload_n 1) 1 6), (6, qe (.iload_n 3) 1 7), (7, qx (.if_icmp .gt 22) 3 10 29 0 0), (10, qe (.aload_n 0) 1 11), (11, qx (.getfield 47) 3 14 11 5 2), (14, qx (.getfield 161) 3 17 7 7 0), (17, qe (.iload_n 1) 1 18), (18, qe (.iadd) 1 19), (19, qw (.sipush 999) 3 22 999)]), (30, [(22, qx (.if_icmp .gt 7) 3 25 29 0 0), (25, qw (.iconst 1) 1 26 1), (26, qx (.goto 4) 3 29 30 0 0), (29, qw (.iconst 0) 1 30 0), (30, qe (.ireturn) 1 31)])]
noncomputable def mt_127 : pj_T := ((⟨"PegCoats", "canCome", "(III)Z"⟩, prog_1_method_40_code, 4, (some .boolean)), (11, true), mc_127)
set_option maxRecDepth 100000 in
/-- 128: PegCoats.lookAhead(I)V -/
noncomputable def mc_128 : pj_M := [(19, [(0, qe (.aload_n 0) 1 1), (1, qx (.getfield 51) 3 4 11 6 2), (4, qe (.aload_n 0) 1 5), (5, qx (.getfield 47) 3 8 11 5 2), (8, qx (.invokevirtual 255) 3 11 77 2 7), (11, qw (.iconst 0) 1 12 0), (12, qe (.istore_n 2) 1 13), (13, qe (.iload_n 2) 1 14), (14, qe (.iload_n 1) 1 15), (15, qx (.if_icmp .ge 21) 3 18 36 0 0), (18, qe (.aload_n 0) 1 19), (19, qx (.getfield 40) 3 22 11 4 2)]), (36, [(22, qe (.aload_n 0) 1 23), (23, qx (.getfield 51) 3 26 11 6 2), (26, qw (.iconst (-1)) 1 27 (-1)), (27, qx (.invokevirtual 258) 3 30 2 3 0), (30, qw (.iinc 2 1) 3 33 1), (33, qx (.goto (-20)) 3 36 13 0 0), (36, qe (.return_) 1 37)])]
noncomputable def mt_128 : pj_T := ((⟨"PegCoats", "lookAhead", "(I)V"⟩, prog_1_method_41_code, 3, none), (11, false), mc_128)
set_option maxRecDepth 100000 in
/-- 129: PegCoats.purse(II)I -/
noncomputable def mc_129 : pj_M := [(20, [(0, qe (.aload_n 0) 1 1), (1, qe (.iload_n 1) 1 2), (2, qx (.invokevirtual 202) 3 5 122 2 11), (5, qx (.ifCond .eq 14) 3 8 19 0 0), (8, qe (.aload_n 0) 1 9), (9, qe (.iload_n 2) 1 10), (10, qw (.iconst 0) 1 11 0), (11, qw (.bipush 40) 2 13 40), (13, qx (.invokevirtual 245) 3 16 127 4 11), (16, qx (.ifCond .ne 5) 3 19 21 0 0), (19, qw (.iconst (-1)) 1 20 (-1)), (20, qe (.ireturn) 1 21)]), (35, [(21, qe (.aload_n 0) 1 22), (22, qe (.iload_n 2) 1 23), (23, qx (.invokevirtual 249) 3 26 128 2 11), (26, qe (.aload_n 0) 1 27), (27, qx (.getfield 51) 3 30 11 6 2), (30, qx (.getfield 233) 3 33 7 5 2), (33, qe (.iload_n 1) 1 34), (34, qe (.iaload) 1 35), (35, qe (.ireturn) 1 36)])]
noncomputable def mt_129 : pj_T := ((⟨"PegCoats", "purse", "(II)I"⟩, prog_1_method_12_code, 3, (some .int)), (11, false), mc_129)
set_option maxRecDepth 100000 in
/-- 130: PegCoats.goes(I)I -/
noncomputable def mc_130 : pj_M := [(21, [(0, qe (.aload_n 0) 1 1), (1, qe (.iload_n 1) 1 2), (2, qx (.invokevirtual 252) 3 5 131 2 11), (5, qx (.ifCond .ne 5) 3 8 10 0 0), (8, qw (.iconst (-1)) 1 9 (-1)), (9, qe (.ireturn) 1 10), (10, qe (.aload_n 0) 1 11), (11, qx (.getfield 51) 3 14 11 6 2), (14, qe (.aload_n 0) 1 15), (15, qx (.getfield 47) 3 18 11 5 2), (18, qx (.invokevirtual 255) 3 21 77 2 7), (21, qw (.iconst 0) 1 22 0)]), (46, [(22, qe (.istore_n 2) 1 23), (23, qe (.iload_n 2) 1 24), (24, qw (.bipush 40) 2 26 40), (26, qx (.if_icmp .ge 48) 3 29 74 0 0), (29, qe (.aload_n 0) 1 30), (30, qx (.getfield 51) 3 33 11 6 2), (33, qx (.getfield 161) 3 36 7 7 0), (36, qw (.sipush 999) 3 39 999), (39, qx (.if_icmp .ge 35) 3 42 74 0 0), (42, qe (.aload_n 0) 1 43), (43, qx (.getfield 40) 3 46 11 4 2), (46, qe (.aload_n 0) 1 47)]), (68, [(47, qx (.getfield 51) 3 50 11 6 2), (50, qw (.iconst (-1)) 1 51 (-1)), (51, qx (.invokevirtual 258) 3 54 2 3 0), (54, qe (.aload_n 0) 1 55), (55, qx (.getfield 51) 3 58 11 6 2), (58, qx (.getfield 236) 3 61 7 6 2), (61, qe (.iload_n 1) 1 62), (62, qe (.baload) 1 63), (63, qx (.ifCond .ne 5) 3 66 68 0 0), (66, qe (.iload_n 2) 1 67), (67, qe (.ireturn) 1 68), (68, qw (.iinc 2 1) 3 71 1)]), (75, [(71, qx (.goto (-48)) 3 74 23 0 0), (74, qw (.iconst (-1)) 1 75 (-1)), (75, qe (.ireturn) 1 76)])]
noncomputable def mt_130 : pj_T := ((⟨"PegCoats", "goes", "(I)I"⟩, prog_1_method_13_code, 3, (some .int)), (11, false), mc_130)
set_option maxRecDepth 100000 in
/-- 131: PegCoats.isThere(I)Z -/
noncomputable def mc_131 : pj_M := [(21, [(0, qe (.aload_n 0) 1 1), (1, qe (.iload_n 1) 1 2), (2, qx (.invokevirtual 202) 3 5 122 2 11), (5, qx (.ifCond .eq 19) 3 8 24 0 0), (8, qe (.aload_n 0) 1 9), (9, qx (.getfield 47) 3 12 11 5 2), (12, qx (.getfield 236) 3 15 7 6 2), (15, qe (.iload_n 1) 1 16), (16, qe (.baload) 1 17), (17, qx (.ifCond .eq 7) 3 20 24 0 0), (20, qw (.iconst 1) 1 21 1), (21, qx (.goto 4) 3 24 25 0 0)]), (25, [(24, qw (.iconst 0) 1 25 0), (25, qe (.ireturn) 1 26)])]
noncomputable def mt_131 : pj_T := ((⟨"PegCoats", "isThere", "(I)Z"⟩, prog_1_method_38_code, 2, (some .boolean)), (11, true), mc_131)
set_option maxRecDepth 100000 in
/-- 132: PegCoats.match(I)I -/
noncomputable def mc_132 : pj_M := [(19, [(0, qe (.iload_n 1) 1 1), (1, qw (.iconst (-1)) 1 2 (-1)), (2, qx (.if_icmp .eq 13) 3 5 15 0 0), (5, qe (.aload_n 0) 1 6), (6, qe (.iload_n 1) 1 7), (7, qx (.invokevirtual 252) 3 10 131 2 11), (10, qx (.ifCond .ne 5) 3 13 15 0 0), (13, qw (.iconst (-1)) 1 14 (-1)), (14, qe (.ireturn) 1 15), (15, qe (.aload_n 0) 1 16), (16, qx (.getfield 67) 3 19 11 9 2), (19, qe (.aload_n 0) 1 20)]), (45, [(20, qx (.getfield 47) 3 23 11 5 2), (23, qx (.invokevirtual 262) 3 26 13 2 2), (26, qe (.iload_n 1) 1 27), (27, qw (.iconst (-1)) 1 28 (-1)), (28, qx (.if_icmp .ne 13) 3 31 41 0 0), (31, qe (.aload_n 0) 1 32), (32, qx (.getfield 67) 3 35 11 9 2), (35, qx (.invokevirtual 265) 3 38 16 1 2), (38, qx (.goto 11) 3 41 49 0 0), (41, qe (.aload_n 0) 1 42), (42, qx (.getfield 67) 3 45 11 9 2), (45, qe (.iload_n 1) 1 46)]), (49, [(46, qx (.invokevirtual 268) 3 49 17 2 2), (49, qe (.ireturn) 1 50)])]
noncomputable def mt_132 : pj_T := ((⟨"PegCoats", "match", "(I)I"⟩, prog_1_method_14_code, 2, (some .int)), (11, false), mc_132)
set_option maxRecDepth 100000 in
/-- 133: PegCoats.glad(I)I -/
noncomputable def mc_133 : pj_M := [(15, [(0, qe (.iload_n 1) 1 1), (1, qx (.ifCond .lt 8) 3 4 9 0 0), (4, qe (.iload_n 1) 1 5), (5, qw (.iconst 2) 1 6 2), (6, qx (.if_icmp .le 5) 3 9 11 0 0), (9, qw (.iconst (-1)) 1 10 (-1)), (10, qe (.ireturn) 1 11), (11, qw (.iconst 0) 1 12 0), (12, qe (.istore_n 2) 1 13), (13, qw (.iconst (-1)) 1 14 (-1)), (14, qe (.istore_n 3) 1 15), (15, qw (.iconst (-1)) 1 16 (-1))]), (37, [(16, qe (.istore 4) 2 18), (18, qw (.iconst 0) 1 19 0), (19, qe (.istore 5) 2 21), (21, qe (.iload 5) 2 23), (23, qe (.aload_n 0) 1 24), (24, qx (.getfield 19) 3 27 11 1 2), (27, qx (.getfield 158) 3 30 10 13 0), (30, qx (.if_icmp .ge 61) 3 33 91 0 0), (33, qe (.iload 5) 2 35), (35, qw (.iconst 1) 1 36 1), (36, qe (.iadd) 1 37), (37, qe (.istore 6) 2 39)]), (65, [(39, qe (.iload 6) 2 41), (41, qe (.aload_n 0) 1 42), (42, qx (.getfield 19) 3 45 11 1 2), (45, qx (.getfield 158) 3 48 10 13 0), (48, qx (.if_icmp .ge 37) 3 51 85 0 0), (51, qe (.aload_n 0) 1 52), (52, qe (.iload 5) 2 54), (54, qe (.iload 6) 2 56), (56, qx (.invokevirtual 271) 3 59 134 3 11), (59, qx (.ifCond .ne 6) 3 62 65 0 0), (62, qx (.goto 17) 3 65 79 0 0), (65, qe (.iload_n 2) 1 66)]), (92, [(66, qx (.ifCond .ne 10) 3 69 76 0 0), (69, qe (.iload 5) 2 71), (71, qe (.istore_n 3) 1 72), (72, qe (.iload 6) 2 74), (74, qe (.istore 4) 2 76), (76, qw (.iinc 2 1) 3 79 1), (79, qw (.iinc 6 1) 3 82 1), (82, qx (.goto (-43)) 3 85 39 0 0), (85, qw (.iinc 5 1) 3 88 1), (88, qx (.goto (-67)) 3 91 21 0 0), (91, qe (.iload_n 1) 1 92), (92, qx (.ifCond .ne 7) 3 95 99 0 0)]), (110, [(95, qe (.iload_n 2) 1 96), (96, qx (.goto 14) 3 99 110 0 0), (99, qe (.iload_n 1) 1 100), (100, qw (.iconst 1) 1 101 1), (101, qx (.if_icmp .ne 7) 3 104 108 0 0), (104, qe (.iload_n 3) 1 105), (105, qx (.goto 5) 3 108 110 0 0), (108, qe (.iload 4) 2 110), (110, qe (.ireturn) 1 111)])]
noncomputable def mt_133 : pj_T := ((⟨"PegCoats", "glad", "(I)I"⟩, prog_1_method_15_code, 7, (some .int)), (11, false), mc_133)
set_option maxRecDepth 100000 in
/-- 134: PegCoats.wouldGladlyChange(II)Z -/
noncomputable def mc_134 : pj_M := [(21, [(0, qe (.aload_n 0) 1 1), (1, qx (.getfield 47) 3 4 11 5 2), (4, qx (.getfield 236) 3 7 7 6 2), (7, qe (.iload_n 1) 1 8), (8, qe (.baload) 1 9), (9, qx (.ifCond .eq 41) 3 12 50 0 0), (12, qe (.aload_n 0) 1 13), (13, qx (.getfield 47) 3 16 11 5 2), (16, qx (.getfield 236) 3 19 7 6 2), (19, qe (.iload_n 2) 1 20), (20, qe (.baload) 1 21), (21, qx (.ifCond .eq 29) 3 24 50 0 0)]), (45, [(24, qe (.aload_n 0) 1 25), (25, qx (.getfield 47) 3 28 11 5 2), (28, qx (.getfield 230) 3 31 7 4 2), (31, qe (.iload_n 1) 1 32), (32, qe (.iaload) 1 33), (33, qw (.iconst (-1)) 1 34 (-1)), (34, qx (.if_icmp .eq 16) 3 37 50 0 0), (37, qe (.aload_n 0) 1 38), (38, qx (.getfield 47) 3 41 11 5 2), (41, qx (.getfield 230) 3 44 7 4 2), (44, qe (.iload_n 2) 1 45), (45, qe (.iaload) 1 46)]), (63, [(46, qw (.iconst (-1)) 1 47 (-1)), (47, qx (.if_icmp .ne 5) 3 50 52 0 0), (50, qw (.iconst 0) 1 51 0), (51, qe (.ireturn) 1 52), (52, qe (.aload_n 0) 1 53), (53, qe (.iload_n 1) 1 54), (54, qe (.aload_n 0) 1 55), (55, qx (.getfield 47) 3 58 11 5 2), (58, qx (.getfield 230) 3 61 7 4 2), (61, qe (.iload_n 2) 1 62), (62, qe (.iaload) 1 63), (63, qe (.aload_n 0) 1 64)]), (87, [(64, qx (.getfield 47) 3 67 11 5 2), (67, qx (.getfield 230) 3 70 7 4 2), (70, qe (.iload_n 1) 1 71), (71, qe (.iaload) 1 72), (72, qx (.invokevirtual 352) 3 75 135 4 11), (75, qx (.ifCond .eq 33) 3 78 108 0 0), (78, qe (.aload_n 0) 1 79), (79, qe (.iload_n 2) 1 80), (80, qe (.aload_n 0) 1 81), (81, qx (.getfield 47) 3 84 11 5 2), (84, qx (.getfield 230) 3 87 7 4 2), (87, qe (.iload_n 1) 1 88)]), (109, [(88, qe (.iaload) 1 89), (89, qe (.aload_n 0) 1 90), (90, qx (.getfield 47) 3 93 11 5 2), (93, qx (.getfield 230) 3 96 7 4 2), (96, qe (.iload_n 2) 1 97), (97, qe (.iaload) 1 98), (98, qx (.invokevirtual 352) 3 101 135 4 11), (101, qx (.ifCond .eq 7) 3 104 108 0 0), (104, qw (.iconst 1) 1 105 1), (105, qx (.goto 4) 3 108 109 0 0), (108, qw (.iconst 0) 1 109 0), (109, qe (.ireturn) 1 110)])]
noncomputable def mt_134 : pj_T := ((⟨"PegCoats", "wouldGladlyChange", "(II)Z"⟩, prog_1_method_42_code, 3, (some .boolean)), (11, true), mc_134)
set_option maxRecDepth 100000 in
/-- 135: PegCoats.warmer(III)Z -/
noncomputable def mc_135 : pj_M := [(17, [(0, qe (.aload_n 0) 1 1), (1, qe (.iload_n 1) 1 2), (2, qe (.iload_n 2) 1 3), (3, qx (.invokevirtual 355) 3 6 125 3 11), (6, qe (.aload_n 0) 1 7), (7, qe (.iload_n 1) 1 8), (8, qe (.iload_n 3) 1 9), (9, qx (.invokevirtual 355) 3 12 125 3 11), (12, qe (.lcmp) 1 13), (13, qx (.ifCond .le 7) 3 16 20 0 0), (16, qw (.iconst 1) 1 17 1), (17, qx (.goto 4) 3 20 21 0 0)]), (21, [(20, qw (.iconst 0) 1 21 0), (21, qe (.ireturn) 1 22)])]
noncomputable def mt_135 : pj_T := ((⟨"PegCoats", "warmer", "(III)Z"⟩, prog_1_method_43_code, 4, (some .boolean)), (11, true), mc_135)
set_option maxRecDepth 100000 in
/-- 136: PegCoats.passes(III)I -/
noncomputable def mc_136 : pj_M := [(21, [(0, qe (.aload_n 0) 1 1), (1, qe (.iload_n 1) 1 2), (2, qx (.invokevirtual 252) 3 5 131 2 11), (5, qx (.ifCond .eq 21) 3 8 26 0 0), (8, qe (.aload_n 0) 1 9), (9, qe (.iload_n 2) 1 10), (10, qx (.invokevirtual 192) 3 13 120 2 11), (13, qx (.ifCond .eq 13) 3 16 26 0 0), (16, qe (.iload_n 3) 1 17), (17, qw (.iconst (-1)) 1 18 (-1)), (18, qx (.if_icmp .lt 8) 3 21 26 0 0), (21, qe (.iload_n 3) 1 22)]), (41, [(22, qw (.iconst 3) 1 23 3), (23, qx (.if_icmp .lt 5) 3 26 28 0 0), (26, qw (.iconst (-1)) 1 27 (-1)), (27, qe (.ireturn) 1 28), (28, qe (.aload_n 0) 1 29), (29, qx (.getfield 74) 3 32 11 10 2), (32, qe (.aload_n 0) 1 33), (33, qx (.getfield 47) 3 36 11 5 2), (36, qe (.iload_n 1) 1 37), (37, qe (.iload_n 2) 1 38), (38, qx (.invokevirtual 275) 3 41 20 4 3), (41, qe (.istore 4) 2 43)]), (64, [(43, qe (.iload_n 3) 1 44), (44, qw (.iconst (-1)) 1 45 (-1)), (45, qx (.if_icmp .ne 6) 3 48 51 0 0), (48, qe (.iload 4) 2 50), (50, qe (.ireturn) 1 51), (51, qe (.iload_n 3) 1 52), (52, qe (.iload 4) 2 54), (54, qx (.if_icmp .ge 15) 3 57 69 0 0), (57, qe (.aload_n 0) 1 58), (58, qx (.getfield 74) 3 61 11 10 2), (61, qx (.getfield 279) 3 64 3 4 2), (64, qe (.iload_n 3) 1 65)]), (70, [(65, qe (.iaload) 1 66), (66, qx (.goto 4) 3 69 70 0 0), (69, qw (.iconst (-1)) 1 70 (-1)), (70, qe (.ireturn) 1 71)])]
noncomputable def mt_136 : pj_T := ((⟨"PegCoats", "passes", "(III)I"⟩, prog_1_method_16_code, 5, (some .int)), (11, false), mc_136)
set_option maxRecDepth 100000 in
/-- 137: PegCoats.waits(II)I -/
noncomputable def mc_137 : pj_M := [(21, [(0, qe (.aload_n 0) 1 1), (1, qe (.iload_n 1) 1 2), (2, qx (.invokevirtual 252) 3 5 131 2 11), (5, qx (.ifCond .eq 27) 3 8 32 0 0), (8, qe (.aload_n 0) 1 9), (9, qx (.getfield 47) 3 12 11 5 2), (12, qx (.getfield 230) 3 15 7 4 2), (15, qe (.iload_n 1) 1 16), (16, qe (.iaload) 1 17), (17, qw (.iconst (-1)) 1 18 (-1)), (18, qx (.if_icmp .ne 14) 3 21 32 0 0), (21, qe (.aload_n 0) 1 22)]), (39, [(22, qe (.iload_n 2) 1 23), (23, qw (.iconst 1) 1 24 1), (24, qw (.bipush 20) 2 26 20), (26, qx (.invokevirtual 245) 3 29 127 4 11), (29, qx (.ifCond .ne 5) 3 32 34 0 0), (32, qw (.iconst (-1)) 1 33 (-1)), (33, qe (.ireturn) 1 34), (34, qw (.iconst (-1)) 1 35 (-1)), (35, qe (.istore_n 3) 1 36), (36, qw (.iconst (-1)) 1 37 (-1)), (37, qe (.istore 4) 2 39), (39, qe (.aload_n 0) 1 40)]), (64, [(40, qx (.getfield 54) 3 43 11 7 2), (43, qe (.aload_n 0) 1 44), (44, qx (.getfield 47) 3 47 11 5 2), (47, qx (.invokevirtual 255) 3 50 77 2 7), (50, qw (.iconst 0) 1 51 0), (51, qe (.istore 5) 2 53), (53, qe (.iload 5) 2 55), (55, qe (.iload_n 2) 1 56), (56, qx (.if_icmp .gt 93) 3 59 149 0 0), (59, qe (.iload 5) 2 61), (61, qx (.ifCond .le 15) 3 64 76 0 0), (64, qe (.aload_n 0) 1 65)]), (89, [(65, qx (.getfield 40) 3 68 11 4 2), (68, qe (.aload_n 0) 1 69), (69, qx (.getfield 54) 3 72 11 7 2), (72, qe (.iload_n 1) 1 73), (73, qx (.invokevirtual 258) 3 76 2 3 0), (76, qe (.aload_n 0) 1 77), (77, qx (.getfield 51) 3 80 11 6 2), (80, qe (.aload_n 0) 1 81), (81, qx (.getfield 54) 3 84 11 7 2), (84, qx (.invokevirtual 255) 3 87 77 2 7), (87, qe (.iload 5) 2 89), (89, qe (.istore 6) 2 91)]), (115, [(91, qe (.iload 6) 2 93), (93, qe (.iload_n 2) 1 94), (94, qx (.if_icmp .ge 21) 3 97 115 0 0), (97, qe (.aload_n 0) 1 98), (98, qx (.getfield 40) 3 101 11 4 2), (101, qe (.aload_n 0) 1 102), (102, qx (.getfield 51) 3 105 11 6 2), (105, qw (.iconst (-1)) 1 106 (-1)), (106, qx (.invokevirtual 258) 3 109 2 3 0), (109, qw (.iinc 6 1) 3 112 1), (112, qx (.goto (-21)) 3 115 91 0 0), (115, qe (.aload_n 0) 1 116)]), (138, [(116, qx (.getfield 51) 3 119 11 6 2), (119, qx (.getfield 233) 3 122 7 5 2), (122, qe (.iload_n 1) 1 123), (123, qe (.iaload) 1 124), (124, qe (.iload 4) 2 126), (126, qx (.if_icmp .le 17) 3 129 143 0 0), (129, qe (.aload_n 0) 1 130), (130, qx (.getfield 51) 3 133 11 6 2), (133, qx (.getfield 233) 3 136 7 5 2), (136, qe (.iload_n 1) 1 137), (137, qe (.iaload) 1 138), (138, qe (.istore 4) 2 140)]), (150, [(140, qe (.iload 5) 2 142), (142, qe (.istore_n 3) 1 143), (143, qw (.iinc 5 1) 3 146 1), (146, qx (.goto (-93)) 3 149 53 0 0), (149, qe (.iload_n 3) 1 150), (150, qe (.ireturn) 1 151)])]
noncomputable def mt_137 : pj_T := ((⟨"PegCoats", "waits", "(II)I"⟩, prog_1_method_17_code, 7, (some .int)), (11, false), mc_137)
set_option maxRecDepth 100000 in
/-- 138: PegCoats.called(II)I -/
noncomputable def mc_138 : pj_M := [(21, [(0, qe (.iload_n 1) 1 1), (1, qw (.iconst 1) 1 2 1), (2, qx (.if_icmp .lt 19) 3 5 21 0 0), (5, qe (.iload_n 1) 1 6), (6, qw (.bipush 99) 2 8 99), (8, qx (.if_icmp .gt 13) 3 11 21 0 0), (11, qe (.iload_n 2) 1 12), (12, qx (.ifCond .lt 9) 3 15 21 0 0), (15, qe (.iload_n 2) 1 16), (16, qw (.bipush 99) 2 18 99), (18, qx (.if_icmp .le 5) 3 21 23 0 0), (21, qw (.iconst (-1)) 1 22 (-1))]), (41, [(22, qe (.ireturn) 1 23), (23, qe (.aload_n 0) 1 24), (24, qx (.getfield 40) 3 27 11 4 2), (27, qe (.aload_n 0) 1 28), (28, qx (.getfield 47) 3 31 11 5 2), (31, qe (.iload_n 1) 1 32), (32, qe (.iload_n 2) 1 33), (33, qe (.aload_n 0) 1 34), (34, qx (.getfield 47) 3 37 11 5 2), (37, qe (.aload_n 0) 1 38), (38, qx (.getfield 19) 3 41 11 1 2), (41, qx (.invokevirtual 175) 3 44 74 2 7)]), (47, [(44, qx (.invokevirtual 282) 3 47 6 5 0), (47, qe (.ireturn) 1 48)])]
noncomputable def mt_138 : pj_T := ((⟨"PegCoats", "called", "(II)I"⟩, prog_1_method_18_code, 3, (some .int)), (11, false), mc_138)
set_option maxRecDepth 100000 in
/-- 139: PegCoats.see()I -/
noncomputable def mc_139 : pj_M := [(23, [(0, qe (.aload_n 0) 1 1), (1, qx (.getfield 83) 3 4 11 11 2), (4, qe (.aload_n 0) 1 5), (5, qx (.getfield 12) 3 8 11 0 2), (8, qx (.invokevirtual 286) 3 11 89 2 9), (11, qe (.istore_n 1) 1 12), (12, qe (.aload_n 0) 1 13), (13, qx (.getfield 12) 3 16 11 0 2), (16, qx (.invokevirtual 132) 3 19 86 1 8), (19, qe (.iload_n 1) 1 20), (20, qx (.ifCond .eq 13) 3 23 33 0 0), (23, qe (.aload_n 0) 1 24)]), (38, [(24, qx (.getfield 83) 3 27 11 11 2), (27, qx (.getfield 186) 3 30 9 4 0), (30, qx (.goto 8) 3 33 38 0 0), (33, qe (.aload_n 0) 1 34), (34, qw (.iconst 5) 1 35 5), (35, qx (.invokevirtual 112) 3 38 112 2 11), (38, qe (.ireturn) 1 39)])]
noncomputable def mt_139 : pj_T := ((⟨"PegCoats", "see", "()I"⟩, prog_1_method_19_code, 2, (some .int)), (11, false), mc_139)
set_option maxRecDepth 100000 in
/-- 140: PegCoats.had(I)I -/
noncomputable def mc_140 : pj_M := [(19, [(0, qe (.aload_n 0) 1 1), (1, qe (.iload_n 1) 1 2), (2, qx (.invokevirtual 252) 3 5 131 2 11), (5, qx (.ifCond .ne 5) 3 8 10 0 0), (8, qw (.iconst (-1)) 1 9 (-1)), (9, qe (.ireturn) 1 10), (10, qe (.aload_n 0) 1 11), (11, qx (.getfield 83) 3 14 11 11 2), (14, qe (.aload_n 0) 1 15), (15, qx (.getfield 47) 3 18 11 5 2), (18, qe (.iload_n 1) 1 19), (19, qe (.aload_n 0) 1 20)]), (36, [(20, qx (.getfield 83) 3 23 11 11 2), (23, qx (.invokevirtual 290) 3 26 90 1 9), (26, qx (.invokevirtual 293) 3 29 91 4 9), (29, qe (.aload_n 0) 1 30), (30, qx (.getfield 83) 3 33 11 11 2), (33, qx (.getfield 297) 3 36 9 8 0), (36, qe (.ireturn) 1 37)])]
noncomputable def mt_140 : pj_T := ((⟨"PegCoats", "had", "(I)I"⟩, prog_1_method_20_code, 2, (some .int)), (11, false), mc_140)
set_option maxRecDepth 100000 in
/-- 141: PegCoats.tells(II)I -/
noncomputable def mc_141 : pj_M := [(19, [(0, qe (.aload_n 0) 1 1), (1, qe (.iload_n 1) 1 2), (2, qx (.invokevirtual 252) 3 5 131 2 11), (5, qx (.ifCond .eq 12) 3 8 17 0 0), (8, qe (.iload_n 2) 1 9), (9, qx (.ifCond .lt 8) 3 12 17 0 0), (12, qe (.iload_n 2) 1 13), (13, qw (.iconst 2) 1 14 2), (14, qx (.if_icmp .le 5) 3 17 19 0 0), (17, qw (.iconst (-1)) 1 18 (-1)), (18, qe (.ireturn) 1 19), (19, qe (.aload_n 0) 1 20)]), (68, [(20, qx (.getfield 83) 3 23 11 11 2), (23, qe (.aload_n 0) 1 24), (24, qx (.getfield 47) 3 27 11 5 2), (27, qe (.iload_n 1) 1 28), (28, qw (.bipush 30) 2 30 30), (30, qx (.invokevirtual 293) 3 33 91 4 9), (33, qe (.aload_n 0) 1 34), (34, qx (.getfield 83) 3 37 11 11 2), (37, qx (.invokevirtual 300) 3 40 96 1 9), (40, qe (.iload_n 2) 1 41), (41, qs (.lookupswitch 43 #[(0, 27), (1, 35)]) 27 68 84 [(0, 68), (1, 76)]), (68, qe (.aload_n 0) 1 69)]), (91, [(69, qx (.getfield 83) 3 72 11 11 2), (72, qx (.getfield 303) 3 75 9 9 0), (75, qe (.ireturn) 1 76), (76, qe (.aload_n 0) 1 77), (77, qx (.getfield 83) 3 80 11 11 2), (80, qx (.getfield 306) 3 83 9 10 0), (83, qe (.ireturn) 1 84), (84, qe (.aload_n 0) 1 85), (85, qx (.getfield 83) 3 88 11 11 2), (88, qx (.getfield 309) 3 91 9 11 0), (91, qe (.ireturn) 1 92)])]
noncomputable def mt_141 : pj_T := ((⟨"PegCoats", "tells", "(II)I"⟩, prog_1_method_21_code, 3, (some .int)), (11, false), mc_141)
set_option maxRecDepth 100000 in
/-- 142: PegCoats.years(I)I -/
noncomputable def mc_142 : pj_M := [(18, [(0, qe (.aload_n 0) 1 1), (1, qe (.iload_n 1) 1 2), (2, qw (.iconst 1) 1 3 1), (3, qw (.bipush 40) 2 5 40), (5, qx (.invokevirtual 245) 3 8 127 4 11), (8, qx (.ifCond .ne 9) 3 11 17 0 0), (11, qe (.aload_n 0) 1 12), (12, qw (.iconst 2) 1 13 2), (13, qx (.invokevirtual 112) 3 16 112 2 11), (16, qe (.ireturn) 1 17), (17, qe (.aload_n 0) 1 18), (18, qx (.getfield 60) 3 21 11 8 2)]), (38, [(21, qe (.aload_n 0) 1 22), (22, qx (.getfield 47) 3 25 11 5 2), (25, qx (.invokevirtual 312) 3 28 10 2 1), (28, qw (.iconst 0) 1 29 0), (29, qe (.istore_n 2) 1 30), (30, qw (.iconst 0) 1 31 0), (31, qe (.istore_n 3) 1 32), (32, qe (.iload_n 3) 1 33), (33, qe (.iload_n 1) 1 34), (34, qx (.if_icmp .ge 23) 3 37 57 0 0), (37, qe (.aload_n 0) 1 38), (38, qx (.invokevirtual 315) 3 41 143 1 11)]), (58, [(41, qe (.iload_n 2) 1 42), (42, qe (.aload_n 0) 1 43), (43, qx (.getfield 40) 3 46 11 4 2), (46, qx (.getfield 318) 3 49 0 1 0), (49, qe (.iadd) 1 50), (50, qe (.istore_n 2) 1 51), (51, qw (.iinc 3 1) 3 54 1), (54, qx (.goto (-22)) 3 57 32 0 0), (57, qe (.iload_n 2) 1 58), (58, qe (.ireturn) 1 59)])]
noncomputable def mt_142 : pj_T := ((⟨"PegCoats", "years", "(I)I"⟩, prog_1_method_22_code, 4, (some .int)), (11, false), mc_142)
set_option maxRecDepth 100000 in
/-- 143: PegCoats.keepOneYear()V -/
noncomputable def mc_143 : pj_M := [(21, [(0, qe (.aload_n 0) 1 1), (1, qx (.getfield 47) 3 4 11 5 2), (4, qx (.getfield 161) 3 7 7 7 0), (7, qe (.istore_n 1) 1 8), (8, qe (.aload_n 0) 1 9), (9, qx (.getfield 40) 3 12 11 4 2), (12, qe (.aload_n 0) 1 13), (13, qx (.getfield 47) 3 16 11 5 2), (16, qw (.iconst (-1)) 1 17 (-1)), (17, qx (.invokevirtual 258) 3 20 2 3 0), (20, qe (.aload_n 0) 1 21), (21, qx (.getfield 47) 3 24 11 5 2)]), (47, [(24, qx (.getfield 338) 3 27 7 8 0), (27, qe (.aload_n 0) 1 28), (28, qx (.getfield 94) 3 31 11 13 2), (31, qe (.arraylength) 1 32), (32, qx (.if_icmp .ge 50) 3 35 82 0 0), (35, qe (.aload_n 0) 1 36), (36, qx (.getfield 94) 3 39 11 13 2), (39, qe (.aload_n 0) 1 40), (40, qx (.getfield 47) 3 43 11 5 2), (43, qx (.getfield 338) 3 46 7 8 0), (46, qe (.iload_n 1) 1 47), (47, qw (.bipush 6) 2 49 6)]), (68, [(49, qe (.ishl) 1 50), (50, qe (.aload_n 0) 1 51), (51, qx (.getfield 40) 3 54 11 4 2), (54, qx (.getfield 318) 3 57 0 1 0), (57, qw (.iconst 3) 1 58 3), (58, qe (.ishl) 1 59), (59, qe (.ior) 1 60), (60, qe (.aload_n 0) 1 61), (61, qx (.getfield 40) 3 64 11 4 2), (64, qx (.getfield 364) 3 67 0 2 0), (67, qe (.ior) 1 68), (68, qe (.iastore) 1 69)]), (82, [(69, qe (.aload_n 0) 1 70), (70, qx (.getfield 47) 3 73 11 5 2), (73, qe (.dup) 1 74), (74, qx (.getfield 338) 3 77 7 8 0), (77, qw (.iconst 1) 1 78 1), (78, qe (.iadd) 1 79), (79, qx (.putfield 338) 3 82 7 8 0), (82, qe (.return_) 1 83)])]
noncomputable def mt_143 : pj_T := ((⟨"PegCoats", "keepOneYear", "()V"⟩, prog_1_method_45_code, 2, none), (11, false), mc_143)
set_option maxRecDepth 100000 in
/-- 144: PegCoats.chance(I)I -/
noncomputable def mc_144 : pj_M := [(18, [(0, qe (.aload_n 0) 1 1), (1, qe (.iload_n 1) 1 2), (2, qw (.iconst 1) 1 3 1), (3, qw (.bipush 40) 2 5 40), (5, qx (.invokevirtual 245) 3 8 127 4 11), (8, qx (.ifCond .ne 9) 3 11 17 0 0), (11, qe (.aload_n 0) 1 12), (12, qw (.iconst 2) 1 13 2), (13, qx (.invokevirtual 112) 3 16 112 2 11), (16, qe (.ireturn) 1 17), (17, qe (.aload_n 0) 1 18), (18, qx (.getfield 60) 3 21 11 8 2)]), (38, [(21, qe (.aload_n 0) 1 22), (22, qx (.getfield 47) 3 25 11 5 2), (25, qx (.invokevirtual 312) 3 28 10 2 1), (28, qw (.iconst 0) 1 29 0), (29, qe (.istore_n 2) 1 30), (30, qw (.iconst 0) 1 31 0), (31, qe (.istore_n 3) 1 32), (32, qe (.iload_n 3) 1 33), (33, qe (.iload_n 1) 1 34), (34, qx (.if_icmp .ge 23) 3 37 57 0 0), (37, qe (.aload_n 0) 1 38), (38, qx (.invokevirtual 321) 3 41 145 1 11)]), (58, [(41, qx (.ifCond .eq 6) 3 44 47 0 0), (44, qw (.iinc 2 1) 3 47 1), (47, qe (.aload_n 0) 1 48), (48, qx (.invokevirtual 315) 3 51 143 1 11), (51, qw (.iinc 3 1) 3 54 1), (54, qx (.goto (-22)) 3 57 32 0 0), (57, qe (.iload_n 2) 1 58), (58, qe (.ireturn) 1 59)])]
noncomputable def mt_144 : pj_T := ((⟨"PegCoats", "chance", "(I)I"⟩, prog_1_method_23_code, 4, (some .int)), (11, false), mc_144)
set_option maxRecDepth 100000 in
/-- 145: PegCoats.burnsOne()Z -/
noncomputable def mc_145 : pj_M := [(26, [(0, qe (.aload_n 0) 1 1), (1, qw (.bipush 100) 2 3 100), (3, qx (.invokevirtual 367) 3 6 146 2 11), (6, qe (.aload_n 0) 1 7), (7, qx (.getfield 19) 3 10 11 1 2), (10, qx (.getfield 369) 3 13 10 15 0), (13, qx (.if_icmp .ge 13) 3 16 26 0 0), (16, qe (.aload_n 0) 1 17), (17, qx (.getfield 19) 3 20 11 1 2), (20, qx (.getfield 155) 3 23 10 12 0), (23, qx (.ifCond .ne 5) 3 26 28 0 0), (26, qw (.iconst 0) 1 27 0)]), (48, [(27, qe (.ireturn) 1 28), (28, qe (.aload_n 0) 1 29), (29, qe (.aload_n 0) 1 30), (30, qx (.getfield 19) 3 33 11 1 2), (33, qx (.getfield 155) 3 36 10 12 0), (36, qx (.invokevirtual 367) 3 39 146 2 11), (39, qe (.istore_n 1) 1 40), (40, qe (.aload_n 0) 1 41), (41, qx (.getfield 47) 3 44 11 5 2), (44, qx (.getfield 217) 3 47 7 1 2), (47, qe (.iload_n 1) 1 48), (48, qe (.baload) 1 49)]), (70, [(49, qx (.ifCond .eq 5) 3 52 54 0 0), (52, qw (.iconst 0) 1 53 0), (53, qe (.ireturn) 1 54), (54, qe (.aload_n 0) 1 55), (55, qx (.getfield 47) 3 58 11 5 2), (58, qe (.iload_n 1) 1 59), (59, qe (.aload_n 0) 1 60), (60, qx (.getfield 19) 3 63 11 1 2), (63, qx (.getfield 158) 3 66 10 13 0), (66, qx (.invokevirtual 372) 3 69 80 3 7), (69, qw (.iconst 1) 1 70 1), (70, qe (.ireturn) 1 71)])]
noncomputable def mt_145 : pj_T := ((⟨"PegCoats", "burnsOne", "()Z"⟩, prog_1_method_46_code, 2, (some .boolean)), (11, true), mc_145)
set_option maxRecDepth 100000 in
/-- 146: PegCoats.draw(I)I -/
noncomputable def mc_146 : pj_M := [(19, [(0, qe (.aload_n 0) 1 1), (1, ql (.ldc2_w 375) 3 4 1103515245), (4, qe (.aload_n 0) 1 5), (5, qx (.getfield 101) 3 8 11 15 0), (8, qe (.i2l) 1 9), (9, qe (.lmul) 1 10), (10, ql (.ldc2_w 377) 3 13 12345), (13, qe (.ladd) 1 14), (14, ql (.ldc2_w 379) 3 17 2147483647), (17, qe (.land) 1 18), (18, qe (.l2i) 1 19), (19, qx (.putfield 101) 3 22 11 15 0)]), (40, [(22, qe (.iload_n 1) 1 23), (23, qw (.iconst 1) 1 24 1), (24, qx (.if_icmp .ge 7) 3 27 31 0 0), (27, qw (.iconst 0) 1 28 0), (28, qx (.goto 12) 3 31 40 0 0), (31, qe (.aload_n 0) 1 32), (32, qx (.getfield 101) 3 35 11 15 0), (35, qw (.bipush 64) 2 37 64), (37, qe (.idiv) 1 38), (38, qe (.iload_n 1) 1 39), (39, qe (.irem) 1 40), (40, qe (.ireturn) 1 41)])]
noncomputable def mt_146 : pj_T := ((⟨"PegCoats", "draw", "(I)I"⟩, prog_1_method_47_code, 2, (some .int)), (11, false), mc_146)
set_option maxRecDepth 100000 in
/-- 147: PegCoats.pass(II)Z -/
noncomputable def mc_147 : pj_M := [(21, [(0, qe (.iload_n 1) 1 1), (1, qe (.iload_n 2) 1 2), (2, qx (.if_icmp .eq 19) 3 5 21 0 0), (5, qe (.aload_n 0) 1 6), (6, qe (.iload_n 1) 1 7), (7, qx (.invokevirtual 252) 3 10 131 2 11), (10, qx (.ifCond .eq 11) 3 13 21 0 0), (13, qe (.aload_n 0) 1 14), (14, qe (.iload_n 2) 1 15), (15, qx (.invokevirtual 252) 3 18 131 2 11), (18, qx (.ifCond .ne 9) 3 21 27 0 0), (21, qe (.aload_n 0) 1 22)]), (41, [(22, qw (.iconst 3) 1 23 3), (23, qx (.invokevirtual 126) 3 26 114 2 11), (26, qe (.ireturn) 1 27), (27, qe (.aload_n 0) 1 28), (28, qx (.getfield 47) 3 31 11 5 2), (31, qx (.getfield 230) 3 34 7 4 2), (34, qe (.iload_n 1) 1 35), (35, qe (.iaload) 1 36), (36, qw (.iconst (-1)) 1 37 (-1)), (37, qx (.if_icmp .ne 22) 3 40 59 0 0), (40, qe (.aload_n 0) 1 41), (41, qx (.getfield 47) 3 44 11 5 2)]), (63, [(44, qx (.getfield 230) 3 47 7 4 2), (47, qe (.iload_n 2) 1 48), (48, qe (.iaload) 1 49), (49, qw (.iconst (-1)) 1 50 (-1)), (50, qx (.if_icmp .ne 9) 3 53 59 0 0), (53, qe (.aload_n 0) 1 54), (54, qw (.iconst 3) 1 55 3), (55, qx (.invokevirtual 126) 3 58 114 2 11), (58, qe (.ireturn) 1 59), (59, qe (.aload_n 0) 1 60), (60, qx (.getfield 60) 3 63 11 8 2), (63, qe (.aload_n 0) 1 64)]), (80, [(64, qx (.getfield 47) 3 67 11 5 2), (67, qx (.invokevirtual 312) 3 70 10 2 1), (70, qe (.aload_n 0) 1 71), (71, qx (.getfield 47) 3 74 11 5 2), (74, qe (.iload_n 1) 1 75), (75, qe (.iload_n 2) 1 76), (76, qx (.invokevirtual 324) 3 79 79 3 7), (79, qw (.iconst 1) 1 80 1), (80, qe (.ireturn) 1 81)])]
noncomputable def mt_147 : pj_T := ((⟨"PegCoats", "pass", "(II)Z"⟩, prog_1_method_24_code, 3, (some .boolean)), (11, true), mc_147)
set_option maxRecDepth 100000 in
/-- 148: PegCoats.put(II)Z -/
noncomputable def mc_148 : pj_M := [(21, [(0, qe (.aload_n 0) 1 1), (1, qe (.iload_n 1) 1 2), (2, qx (.invokevirtual 252) 3 5 131 2 11), (5, qx (.ifCond .eq 32) 3 8 37 0 0), (8, qe (.aload_n 0) 1 9), (9, qx (.getfield 47) 3 12 11 5 2), (12, qx (.getfield 230) 3 15 7 4 2), (15, qe (.iload_n 1) 1 16), (16, qe (.iaload) 1 17), (17, qw (.iconst (-1)) 1 18 (-1)), (18, qx (.if_icmp .ne 19) 3 21 37 0 0), (21, qe (.aload_n 0) 1 22)]), (43, [(22, qe (.iload_n 2) 1 23), (23, qx (.invokevirtual 192) 3 26 120 2 11), (26, qx (.ifCond .eq 11) 3 29 37 0 0), (29, qe (.aload_n 0) 1 30), (30, qe (.iload_n 2) 1 31), (31, qx (.invokevirtual 328) 3 34 149 2 11), (34, qx (.ifCond .ne 9) 3 37 43 0 0), (37, qe (.aload_n 0) 1 38), (38, qw (.iconst 3) 1 39 3), (39, qx (.invokevirtual 126) 3 42 114 2 11), (42, qe (.ireturn) 1 43), (43, qe (.aload_n 0) 1 44)]), (64, [(44, qx (.getfield 60) 3 47 11 8 2), (47, qe (.aload_n 0) 1 48), (48, qx (.getfield 47) 3 51 11 5 2), (51, qx (.invokevirtual 312) 3 54 10 2 1), (54, qe (.aload_n 0) 1 55), (55, qx (.getfield 47) 3 58 11 5 2), (58, qe (.iload_n 1) 1 59), (59, qe (.iload_n 2) 1 60), (60, qx (.invokevirtual 331) 3 63 78 3 7), (63, qw (.iconst 1) 1 64 1), (64, qe (.ireturn) 1 65)])]
noncomputable def mt_148 : pj_T := ((⟨"PegCoats", "put", "(II)Z"⟩, prog_1_method_25_code, 3, (some .boolean)), (11, true), mc_148)
set_option maxRecDepth 100000 in
/-- 149: PegCoats.isPegged(I)Z -/
noncomputable def mc_149 : pj_M := [(21, [(0, qe (.aload_n 0) 1 1), (1, qx (.getfield 47) 3 4 11 5 2), (4, qx (.getfield 217) 3 7 7 1 2), (7, qe (.iload_n 1) 1 8), (8, qe (.baload) 1 9), (9, qx (.ifCond .ne 26) 3 12 35 0 0), (12, qe (.aload_n 0) 1 13), (13, qx (.getfield 47) 3 16 11 5 2), (16, qe (.iload_n 1) 1 17), (17, qe (.aload_n 0) 1 18), (18, qx (.getfield 19) 3 21 11 1 2), (21, qx (.getfield 158) 3 24 10 13 0)]), (36, [(24, qx (.invokevirtual 221) 3 27 76 3 7), (27, qw (.iconst (-1)) 1 28 (-1)), (28, qx (.if_icmp .ne 7) 3 31 35 0 0), (31, qw (.iconst 1) 1 32 1), (32, qx (.goto 4) 3 35 36 0 0), (35, qw (.iconst 0) 1 36 0), (36, qe (.ireturn) 1 37)])]
noncomputable def mt_149 : pj_T := ((⟨"PegCoats", "isPegged", "(I)Z"⟩, prog_1_method_39_code, 2, (some .boolean)), (11, true), mc_149)
set_option maxRecDepth 100000 in
/-- 150: PegCoats.hang(I)Z -/
noncomputable def mc_150 : pj_M := [(21, [(0, qe (.aload_n 0) 1 1), (1, qe (.iload_n 1) 1 2), (2, qx (.invokevirtual 202) 3 5 122 2 11), (5, qx (.ifCond .eq 16) 3 8 21 0 0), (8, qe (.aload_n 0) 1 9), (9, qx (.getfield 47) 3 12 11 5 2), (12, qx (.getfield 230) 3 15 7 4 2), (15, qe (.iload_n 1) 1 16), (16, qe (.iaload) 1 17), (17, qw (.iconst (-1)) 1 18 (-1)), (18, qx (.if_icmp .ne 9) 3 21 27 0 0), (21, qe (.aload_n 0) 1 22)]), (45, [(22, qw (.iconst 3) 1 23 3), (23, qx (.invokevirtual 126) 3 26 114 2 11), (26, qe (.ireturn) 1 27), (27, qe (.aload_n 0) 1 28), (28, qx (.getfield 60) 3 31 11 8 2), (31, qe (.aload_n 0) 1 32), (32, qx (.getfield 47) 3 35 11 5 2), (35, qx (.invokevirtual 312) 3 38 10 2 1), (38, qe (.aload_n 0) 1 39), (39, qx (.getfield 47) 3 42 11 5 2), (42, qx (.getfield 230) 3 45 7 4 2), (45, qe (.iload_n 1) 1 46)]), (49, [(46, qw (.iconst (-1)) 1 47 (-1)), (47, qe (.iastore) 1 48), (48, qw (.iconst 1) 1 49 1), (49, qe (.ireturn) 1 50)])]
noncomputable def mt_150 : pj_T := ((⟨"PegCoats", "hang", "(I)Z"⟩, prog_1_method_26_code, 2, (some .boolean)), (11, true), mc_150)
set_option maxRecDepth 100000 in
/-- 151: PegCoats.undo()Z -/
noncomputable def mc_151 : pj_M := [(23, [(0, qe (.aload_n 0) 1 1), (1, qx (.getfield 60) 3 4 11 8 2), (4, qe (.aload_n 0) 1 5), (5, qx (.getfield 47) 3 8 11 5 2), (8, qx (.invokevirtual 334) 3 11 11 2 1), (11, qx (.ifCond .ne 11) 3 14 22 0 0), (14, qe (.aload_n 0) 1 15), (15, qw (.iconst 4) 1 16 4), (16, qx (.invokevirtual 126) 3 19 114 2 11), (19, qx (.ifCond .eq 7) 3 22 26 0 0), (22, qw (.iconst 1) 1 23 1), (23, qx (.goto 4) 3 26 27 0 0)]), (27, [(26, qw (.iconst 0) 1 27 0), (27, qe (.ireturn) 1 28)])]
noncomputable def mt_151 : pj_T := ((⟨"PegCoats", "undo", "()Z"⟩, prog_1_method_27_code, 1, (some .boolean)), (11, true), mc_151)
set_option maxRecDepth 100000 in
/-- 152: PegCoats.seed(I)Z -/
noncomputable def mc_152 : pj_M := [(16, [(0, qe (.iload_n 1) 1 1), (1, qx (.ifCond .ge 9) 3 4 10 0 0), (4, qe (.aload_n 0) 1 5), (5, qw (.iconst 5) 1 6 5), (6, qx (.invokevirtual 126) 3 9 114 2 11), (9, qe (.ireturn) 1 10), (10, qe (.aload_n 0) 1 11), (11, qe (.iload_n 1) 1 12), (12, qx (.putfield 101) 3 15 11 15 0), (15, qw (.iconst 1) 1 16 1), (16, qe (.ireturn) 1 17)])]
noncomputable def mt_152 : pj_T := ((⟨"PegCoats", "seed", "(I)Z"⟩, prog_1_method_28_code, 2, (some .boolean)), (11, true), mc_152)
set_option maxRecDepth 100000 in
/-- 153: PegCoats.kept(II)I -/
noncomputable def mc_153 : pj_M := [(17, [(0, qe (.aload_n 0) 1 1), (1, qx (.invokevirtual 182) 3 4 118 1 11), (4, qe (.istore_n 3) 1 5), (5, qe (.iload_n 1) 1 6), (6, qx (.ifCond .lt 8) 3 9 14 0 0), (9, qe (.iload_n 1) 1 10), (10, qe (.iload_n 3) 1 11), (11, qx (.if_icmp .lt 5) 3 14 16 0 0), (14, qw (.iconst (-1)) 1 15 (-1)), (15, qe (.ireturn) 1 16), (16, qe (.aload_n 0) 1 17), (17, qx (.getfield 94) 3 20 11 13 2)]), (60, [(20, qe (.aload_n 0) 1 21), (21, qx (.getfield 47) 3 24 11 5 2), (24, qx (.getfield 338) 3 27 7 8 0), (27, qe (.iload_n 3) 1 28), (28, qe (.isub) 1 29), (29, qe (.iload_n 1) 1 30), (30, qe (.iadd) 1 31), (31, qe (.iaload) 1 32), (32, qe (.istore 4) 2 34), (34, qe (.iload_n 2) 1 35), (35, qs (.tableswitch 45 0 2 #[25, 31, 39]) 25 60 80 [(0, 60), (1, 66), (2, 74)]), (60, qe (.iload 4) 2 62)]), (78, [(62, qw (.bipush 6) 2 64 6), (64, qe (.ishr) 1 65), (65, qe (.ireturn) 1 66), (66, qe (.iload 4) 2 68), (68, qw (.iconst 3) 1 69 3), (69, qe (.ishr) 1 70), (70, qw (.bipush 7) 2 72 7), (72, qe (.iand) 1 73), (73, qe (.ireturn) 1 74), (74, qe (.iload 4) 2 76), (76, qw (.bipush 7) 2 78 7), (78, qe (.iand) 1 79)]), (81, [(79, qe (.ireturn) 1 80), (80, qw (.iconst (-1)) 1 81 (-1)), (81, qe (.ireturn) 1 82)])]
noncomputable def mt_153 : pj_T := ((⟨"PegCoats", "kept", "(II)I"⟩, prog_1_method_29_code, 5, (some .int)), (11, false), mc_153)
set_option maxRecDepth 100000 in
/-- 154: PegCoats.image()I -/
noncomputable def mc_154 : pj_M := [(18, [(0, qe (.aload_n 0) 1 1), (1, qx (.getfield 90) 3 4 11 12 2), (4, qe (.aload_n 0) 1 5), (5, qx (.getfield 47) 3 8 11 5 2), (8, qx (.invokevirtual 341) 3 11 29 2 4), (11, qe (.aload_n 0) 1 12), (12, qx (.getfield 90) 3 15 11 12 2), (15, qx (.getfield 344) 3 18 4 2 0), (18, qe (.ireturn) 1 19)])]
noncomputable def mt_154 : pj_T := ((⟨"PegCoats", "image", "()I"⟩, prog_1_method_30_code, 1, (some .int)), (11, false), mc_154)
set_option maxRecDepth 100000 in
/-- 155: PegCoats.octet(I)I -/
noncomputable def mc_155 : pj_M := [(23, [(0, qe (.iload_n 1) 1 1), (1, qx (.ifCond .lt 14) 3 4 15 0 0), (4, qe (.iload_n 1) 1 5), (5, qe (.aload_n 0) 1 6), (6, qx (.getfield 90) 3 9 11 12 2), (9, qx (.getfield 344) 3 12 4 2 0), (12, qx (.if_icmp .lt 7) 3 15 19 0 0), (15, qw (.iconst (-1)) 1 16 (-1)), (16, qx (.goto 12) 3 19 28 0 0), (19, qe (.aload_n 0) 1 20), (20, qx (.getfield 90) 3 23 11 12 2), (23, qx (.getfield 345) 3 26 4 1 2)]), (28, [(26, qe (.iload_n 1) 1 27), (27, qe (.iaload) 1 28), (28, qe (.ireturn) 1 29)])]
noncomputable def mt_155 : pj_T := ((⟨"PegCoats", "octet", "(I)I"⟩, prog_1_method_31_code, 2, (some .int)), (11, false), mc_155)
set_option maxRecDepth 100000 in
/-- 156: PegCoats.on()Z -/
noncomputable def mc_156 : pj_M := [(23, [(0, qe (.aload_n 0) 1 1), (1, qx (.getfield 90) 3 4 11 12 2), (4, qe (.aload_n 0) 1 5), (5, qx (.getfield 51) 3 8 11 6 2), (8, qe (.aload_n 0) 1 9), (9, qx (.getfield 12) 3 12 11 0 2), (12, qx (.invokevirtual 348) 3 15 31 3 4), (15, qe (.istore_n 1) 1 16), (16, qe (.aload_n 0) 1 17), (17, qx (.getfield 12) 3 20 11 0 2), (20, qx (.invokevirtual 132) 3 23 86 1 8), (23, qe (.iload_n 1) 1 24)]), (45, [(24, qx (.ifCond .ne 9) 3 27 33 0 0), (27, qe (.aload_n 0) 1 28), (28, qw (.iconst 5) 1 29 5), (29, qx (.invokevirtual 126) 3 32 114 2 11), (32, qe (.ireturn) 1 33), (33, qe (.aload_n 0) 1 34), (34, qx (.getfield 47) 3 37 11 5 2), (37, qe (.aload_n 0) 1 38), (38, qx (.getfield 51) 3 41 11 6 2), (41, qx (.invokevirtual 255) 3 44 77 2 7), (44, qe (.aload_n 0) 1 45), (45, qx (.getfield 60) 3 48 11 8 2)]), (52, [(48, qx (.invokevirtual 142) 3 51 9 1 1), (51, qw (.iconst 1) 1 52 1), (52, qe (.ireturn) 1 53)])]
noncomputable def mt_156 : pj_T := ((⟨"PegCoats", "on", "()Z"⟩, prog_1_method_32_code, 2, (some .boolean)), (11, true), mc_156)
set_option maxRecDepth 100000 in
/-- 157: PegCoats.status(I)I -/
noncomputable def mc_157 : pj_M := [(20, [(0, qe (.iload_n 1) 1 1), (1, qx (.ifCond .lt 9) 3 4 10 0 0), (4, qe (.iload_n 1) 1 5), (5, qw (.bipush 6) 2 7 6), (7, qx (.if_icmp .lt 7) 3 10 14 0 0), (10, qw (.iconst (-1)) 1 11 (-1)), (11, qx (.goto 9) 3 14 20 0 0), (14, qe (.aload_n 0) 1 15), (15, qx (.getfield 98) 3 18 11 14 2), (18, qe (.iload_n 1) 1 19), (19, qe (.iaload) 1 20), (20, qe (.ireturn) 1 21)])]
noncomputable def mt_157 : pj_T := ((⟨"PegCoats", "status", "(I)I"⟩, prog_1_method_33_code, 2, (some .int)), (11, false), mc_157)
set_option maxRecDepth 100000 in
/-- 158: PegCoatsModel.<init>()V -/
noncomputable def mc_158 : pj_M := [(20, [(0, qe (.aload_n 0) 1 1), (1, qx (.invokespecial 1) 3 4 1000 1 0), (4, qe (.aload_n 0) 1 5), (5, qw (.sipush 1800) 3 8 1800), (8, qx (.newarray .int) 2 10 13 0 0), (10, qx (.putfield 7) 3 13 12 0 2), (13, qe (.aload_n 0) 1 14), (14, qw (.iconst 0) 1 15 0), (15, qx (.putfield 13) 3 18 12 1 0), (18, qe (.aload_n 0) 1 19), (19, qw (.iconst 0) 1 20 0), (20, qx (.putfield 17) 3 23 12 2 0)]), (40, [(23, qe (.aload_n 0) 1 24), (24, qw (.iconst 0) 1 25 0), (25, qx (.putfield 20) 3 28 12 3 0), (28, qe (.aload_n 0) 1 29), (29, qw (.iconst 0) 1 30 0), (30, qx (.putfield 23) 3 33 12 4 0), (33, qe (.aload_n 0) 1 34), (34, qw (.iconst 0) 1 35 0), (35, qx (.putfield 26) 3 38 12 5 0), (38, qe (.aload_n 0) 1 39), (39, qw (.iconst 0) 1 40 0), (40, qx (.putfield 29) 3 43 12 6 0)]), (60, [(43, qe (.aload_n 0) 1 44), (44, ql (.lconst 0) 1 45 0), (45, qx (.putfield 32) 3 48 12 7 1), (48, qe (.aload_n 0) 1 49), (49, qw (.iconst 0) 1 50 0), (50, qx (.putfield 36) 3 53 12 8 0), (53, qe (.aload_n 0) 1 54), (54, qw (.iconst (-1)) 1 55 (-1)), (55, qx (.putfield 39) 3 58 12 9 0), (58, qe (.aload_n 0) 1 59), (59, qw (.iconst 0) 1 60 0), (60, qx (.putfield 42) 3 63 12 10 0)]), (80, [(63, qe (.aload_n 0) 1 64), (64, qw (.iconst (-1)) 1 65 (-1)), (65, qx (.putfield 45) 3 68 12 11 0), (68, qe (.aload_n 0) 1 69), (69, qw (.iconst (-1)) 1 70 (-1)), (70, qx (.putfield 48) 3 73 12 12 0), (73, qe (.aload_n 0) 1 74), (74, qw (.iconst 0) 1 75 0), (75, qx (.putfield 51) 3 78 12 13 0), (78, qe (.aload_n 0) 1 79), (79, qw (.iconst 2) 1 80 2), (80, qx (.newarray .int) 2 82 13 0 0)]), (103, [(82, qx (.putfield 54) 3 85 12 14 2), (85, qe (.aload_n 0) 1 86), (86, qw (.bipush 16) 2 88 16), (88, qx (.newarray .int) 2 90 13 0 0), (90, qx (.putfield 57) 3 93 12 15 2), (93, qe (.aload_n 0) 1 94), (94, qw (.bipush 16) 2 96 16), (96, qx (.newarray .int) 2 98 13 0 0), (98, qx (.putfield 60) 3 101 12 16 2), (101, qe (.aload_n 0) 1 102), (102, qw (.iconst 2) 1 103 2), (103, qx (.newarray .int) 2 105 13 0 0)]), (127, [(105, qx (.putfield 63) 3 108 12 17 2), (108, qe (.aload_n 0) 1 109), (109, qw (.bipush 14) 2 111 14), (111, qx (.newarray .int) 2 113 13 0 0), (113, qx (.putfield 66) 3 116 12 18 2), (116, qe (.aload_n 0) 1 117), (117, qw (.bipush 14) 2 119 14), (119, qx (.newarray .int) 2 121 13 0 0), (121, qx (.putfield 69) 3 124 12 19 2), (124, qe (.aload_n 0) 1 125), (125, qw (.bipush 14) 2 127 14), (127, qx (.newarray .int) 2 129 13 0 0)]), (150, [(129, qx (.putfield 72) 3 132 12 20 2), (132, qe (.aload_n 0) 1 133), (133, qw (.iconst 2) 1 134 2), (134, qx (.newarray .int) 2 136 13 0 0), (136, qx (.putfield 75) 3 139 12 21 2), (139, qe (.aload_n 0) 1 140), (140, qw (.bipush 6) 2 142 6), (142, qx (.newarray .int) 2 144 13 0 0), (144, qx (.putfield 78) 3 147 12 22 2), (147, qe (.aload_n 0) 1 148), (148, qw (.bipush 6) 2 150 6), (150, qx (.newarray .int) 2 152 13 0 0)]), (176, [(152, qx (.putfield 81) 3 155 12 23 2), (155, qe (.aload_n 0) 1 156), (156, qw (.sipush 3200) 3 159 3200), (159, qx (.newarray .int) 2 161 13 0 0), (161, qx (.putfield 84) 3 164 12 24 2), (164, qe (.aload_n 0) 1 165), (165, qw (.sipush 3200) 3 168 3200), (168, qx (.newarray .int) 2 170 13 0 0), (170, qx (.putfield 87) 3 173 12 25 2), (173, qe (.aload_n 0) 1 174), (174, qw (.bipush 16) 2 176 16), (176, qx (.newarray .long) 2 178 14 0 0)]), (199, [(178, qx (.putfield 90) 3 181 12 26 2), (181, qe (.aload_n 0) 1 182), (182, qw (.bipush 14) 2 184 14), (184, qx (.newarray .long) 2 186 14 0 0), (186, qx (.putfield 94) 3 189 12 27 2), (189, qe (.aload_n 0) 1 190), (190, qw (.iconst 0) 1 191 0), (191, qx (.putfield 97) 3 194 12 28 0), (194, qe (.aload_n 0) 1 195), (195, qw (.iconst 1) 1 196 1), (196, qx (.putfield 100) 3 199 12 29 0), (199, qe (.aload_n 0) 1 200)]), (221, [(200, qw (.iconst 0) 1 201 0), (201, qx (.putfield 103) 3 204 12 30 0), (204, qe (.aload_n 0) 1 205), (205, qw (.bipush 20) 2 207 20), (207, qx (.newarray .int) 2 209 13 0 0), (209, qx (.putfield 106) 3 212 12 31 2), (212, qe (.aload_n 0) 1 213), (213, qw (.bipush 20) 2 215 20), (215, qx (.newarray .int) 2 217 13 0 0), (217, qx (.putfield 109) 3 220 12 32 2), (220, qe (.aload_n 0) 1 221), (221, qw (.bipush 20) 2 223 20)]), (245, [(223, qx (.newarray .boolean) 2 225 15 0 0), (225, qx (.putfield 112) 3 228 12 33 2), (228, qe (.aload_n 0) 1 229), (229, qw (.bipush 20) 2 231 20), (231, qx (.newarray .int) 2 233 13 0 0), (233, qx (.putfield 116) 3 236 12 34 2), (236, qe (.aload_n 0) 1 237), (237, qw (.bipush 20) 2 239 20), (239, qx (.newarray .int) 2 241 13 0 0), (241, qx (.putfield 119) 3 244 12 35 2), (244, qe (.aload_n 0) 1 245), (245, qw (.iconst 0) 1 246 0)]), (268, [(246, qx (.putfield 122) 3 249 12 36 0), (249, qe (.aload_n 0) 1 250), (250, qw (.iconst 0) 1 251 0), (251, qx (.putfield 125) 3 254 12 37 0), (254, qe (.aload_n 0) 1 255), (255, qw (.sipush 500) 3 258 500), (258, qx (.newarray .int) 2 260 13 0 0), (260, qx (.putfield 128) 3 263 12 38 2), (263, qe (.aload_n 0) 1 264), (264, qw (.iconst 0) 1 265 0), (265, qx (.putfield 131) 3 268 12 39 0), (268, qe (.aload_n 0) 1 269)]), (290, [(269, qw (.iconst 0) 1 270 0), (270, qx (.putfield 134) 3 273 12 40 3), (273, qe (.aload_n 0) 1 274), (274, qw (.bipush 6) 2 276 6), (276, qx (.newarray .int) 2 278 13 0 0), (278, qx (.putfield 138) 3 281 12 41 2), (281, qe (.aload_n 0) 1 282), (282, qw (.bipush 22) 2 284 22), (284, qx (.newarray .int) 2 286 13 0 0), (286, qx (.putfield 141) 3 289 12 42 2), (289, qe (.aload_n 0) 1 290), (290, qw (.bipush 22) 2 292 22)]), (316, [(292, qx (.newarray .int) 2 294 13 0 0), (294, qx (.putfield 144) 3 297 12 43 2), (297, qe (.aload_n 0) 1 298), (298, qw (.sipush 176) 3 301 176), (301, qx (.newarray .int) 2 303 13 0 0), (303, qx (.putfield 147) 3 306 12 44 2), (306, qe (.aload_n 0) 1 307), (307, qw (.sipush 154) 3 310 154), (310, qx (.newarray .int) 2 312 13 0 0), (312, qx (.putfield 150) 3 315 12 45 2), (315, qe (.aload_n 0) 1 316), (316, qw (.sipush 154) 3 319 154)]), (343, [(319, qx (.newarray .int) 2 321 13 0 0), (321, qx (.putfield 153) 3 324 12 46 2), (324, qe (.aload_n 0) 1 325), (325, qw (.sipush 154) 3 328 154), (328, qx (.newarray .int) 2 330 13 0 0), (330, qx (.putfield 156) 3 333 12 47 2), (333, qe (.aload_n 0) 1 334), (334, qw (.sipush 154) 3 337 154), (337, qx (.newarray .int) 2 339 13 0 0), (339, qx (.putfield 159) 3 342 12 48 2), (342, qe (.aload_n 0) 1 343), (343, qw (.bipush 22) 2 345 22)]), (368, [(345, qx (.newarray .int) 2 347 13 0 0), (347, qx (.putfield 162) 3 350 12 49 2), (350, qe (.aload_n 0) 1 351), (351, qw (.bipush 22) 2 353 22), (353, qx (.newarray .int) 2 355 13 0 0), (355, qx (.putfield 165) 3 358 12 50 2), (358, qe (.aload_n 0) 1 359), (359, qw (.sipush 2640) 3 362 2640), (362, qx (.newarray .int) 2 364 13 0 0), (364, qx (.putfield 168) 3 367 12 51 2), (367, qe (.aload_n 0) 1 368), (368, qw (.iconst 0) 1 369 0)]), (391, [(369, qx (.putfield 171) 3 372 12 52 0), (372, qe (.aload_n 0) 1 373), (373, qw (.iconst 0) 1 374 0), (374, qx (.putfield 174) 3 377 12 53 0), (377, qe (.aload_n 0) 1 378), (378, ql (.lconst 1) 1 379 1), (379, qx (.putfield 177) 3 382 12 54 1), (382, qe (.aload_n 0) 1 383), (383, qw (.sipush 500) 3 386 500), (386, qx (.newarray .long) 2 388 14 0 0), (388, qx (.putfield 180) 3 391 12 55 2), (391, qe (.aload_n 0) 1 392)]), (416, [(392, qw (.bipush 12) 2 394 12), (394, qx (.newarray .int) 2 396 13 0 0), (396, qx (.putfield 183) 3 399 12 56 2), (399, qe (.aload_n 0) 1 400), (400, qw (.sipush 2048) 3 403 2048), (403, qx (.newarray .int) 2 405 13 0 0), (405, qx (.putfield 186) 3 408 12 57 2), (408, qe (.aload_n 0) 1 409), (409, qw (.bipush 21) 2 411 21), (411, qx (.newarray .int) 2 413 13 0 0), (413, qx (.putfield 189) 3 416 12 58 2), (416, qe (.aload_n 0) 1 417)]), (437, [(417, qw (.iconst 3) 1 418 3), (418, qx (.newarray .int) 2 420 13 0 0), (420, qx (.putfield 192) 3 423 12 59 2), (423, qe (.aload_n 0) 1 424), (424, qw (.iconst 0) 1 425 0), (425, qx (.putfield 195) 3 428 12 60 0), (428, qe (.aload_n 0) 1 429), (429, qw (.bipush 16) 2 431 16), (431, qx (.newarray .int) 2 433 13 0 0), (433, qx (.putfield 198) 3 436 12 61 2), (436, qe (.aload_n 0) 1 437), (437, qw (.bipush 16) 2 439 16)]), (462, [(439, qx (.newarray .int) 2 441 13 0 0), (441, qx (.putfield 201) 3 444 12 62 2), (444, qe (.aload_n 0) 1 445), (445, qw (.bipush 16) 2 447 16), (447, qx (.newarray .int) 2 449 13 0 0), (449, qx (.putfield 204) 3 452 12 63 2), (452, qe (.aload_n 0) 1 453), (453, qw (.sipush 1953) 3 456 1953), (456, qx (.newarray .int) 2 458 13 0 0), (458, qx (.putfield 207) 3 461 12 64 2), (461, qe (.aload_n 0) 1 462), (462, qw (.bipush 70) 2 464 70)]), (483, [(464, qx (.newarray .int) 2 466 13 0 0), (466, qx (.putfield 210) 3 469 12 65 2), (469, qe (.aload_n 0) 1 470), (470, qw (.iconst 0) 1 471 0), (471, qx (.putfield 213) 3 474 12 66 0), (474, qw (.iconst 0) 1 475 0), (475, qe (.istore_n 1) 1 476), (476, qe (.iload_n 1) 1 477), (477, qw (.bipush 6) 2 479 6), (479, qx (.if_icmp .ge 16) 3 482 495 0 0), (482, qe (.aload_n 0) 1 483), (483, qx (.getfield 78) 3 486 12 22 2)]), (495, [(486, qe (.iload_n 1) 1 487), (487, qw (.iconst (-1)) 1 488 (-1)), (488, qe (.iastore) 1 489), (489, qw (.iinc 1 1) 3 492 1), (492, qx (.goto (-16)) 3 495 476 0 0), (495, qe (.return_) 1 496)])]
noncomputable def mt_158 : pj_T := ((⟨"PegCoatsModel", "<init>", "()V"⟩, prog_14_method_1_code, 2, none), (12, false), mc_158)
end
section
set_option maxRecDepth 100000 in
/-- 159: PegCoatsModel.feed(IIIII)I -/
noncomputable def mc_159 : pj_M := [(20, [(0, qe (.aload_n 0) 1 1), (1, qx (.getfield 13) 3 4 12 1 0), (4, qw (.bipush 20) 2 6 20), (6, qe (.iadd) 1 7), (7, qw (.sipush 1600) 3 10 1600), (10, qx (.if_icmp .le 9) 3 13 19 0 0), (13, qe (.aload_n 0) 1 14), (14, qw (.iconst 0) 1 15 0), (15, qx (.invokevirtual 216) 3 18 160 2 12), (18, qe (.ireturn) 1 19), (19, qe (.aload_n 0) 1 20), (20, qe (.iload_n 1) 1 21)]), (41, [(21, qx (.invokevirtual 220) 3 24 161 2 12), (24, qe (.aload_n 0) 1 25), (25, qe (.iload_n 2) 1 26), (26, qx (.invokevirtual 220) 3 29 161 2 12), (29, qe (.aload_n 0) 1 30), (30, qe (.iload_n 3) 1 31), (31, qx (.invokevirtual 220) 3 34 161 2 12), (34, qe (.aload_n 0) 1 35), (35, qe (.iload 4) 2 37), (37, qx (.invokevirtual 220) 3 40 161 2 12), (40, qe (.aload_n 0) 1 41), (41, qe (.iload 5) 2 43)]), (50, [(43, qx (.invokevirtual 220) 3 46 161 2 12), (46, qe (.aload_n 0) 1 47), (47, qx (.getfield 13) 3 50 12 1 0), (50, qe (.ireturn) 1 51)])]
noncomputable def mt_159 : pj_T := ((⟨"PegCoatsModel", "feed", "(IIIII)I"⟩, prog_14_method_4_code, 6, (some .int)), (12, false), mc_159)
set_option maxRecDepth 100000 in
/-- 160: PegCoatsModel.refuses(I)I -/
noncomputable def mc_160 : pj_M := [(11, [(0, qe (.aload_n 0) 1 1), (1, qx (.getfield 138) 3 4 12 41 2), (4, qe (.iload_n 1) 1 5), (5, qe (.dup2) 1 6), (6, qe (.iaload) 1 7), (7, qw (.iconst 1) 1 8 1), (8, qe (.iadd) 1 9), (9, qe (.iastore) 1 10), (10, qw (.iconst (-1)) 1 11 (-1)), (11, qe (.ireturn) 1 12)])]
noncomputable def mt_160 : pj_T := ((⟨"PegCoatsModel", "refuses", "(I)I"⟩, prog_14_method_43_code, 2, (some .int)), (12, false), mc_160)
set_option maxRecDepth 100000 in
/-- 161: PegCoatsModel.put(I)V -/
noncomputable def mc_161 : pj_M := [(18, [(0, qw (.bipush 24) 2 2 24), (2, qe (.istore_n 2) 1 3), (3, qe (.iload_n 2) 1 4), (4, qx (.ifCond .lt 35) 3 7 39 0 0), (7, qe (.aload_n 0) 1 8), (8, qx (.getfield 7) 3 11 12 0 2), (11, qe (.aload_n 0) 1 12), (12, qx (.getfield 13) 3 15 12 1 0), (15, qe (.iload_n 1) 1 16), (16, qe (.iload_n 2) 1 17), (17, qe (.ishr) 1 18), (18, qw (.sipush 255) 3 21 255)]), (39, [(21, qe (.iand) 1 22), (22, qe (.iastore) 1 23), (23, qe (.aload_n 0) 1 24), (24, qe (.dup) 1 25), (25, qx (.getfield 13) 3 28 12 1 0), (28, qw (.iconst 1) 1 29 1), (29, qe (.iadd) 1 30), (30, qx (.putfield 13) 3 33 12 1 0), (33, qw (.iinc 2 (-8)) 3 36 (-8)), (36, qx (.goto (-33)) 3 39 3 0 0), (39, qe (.return_) 1 40)])]
noncomputable def mt_161 : pj_T := ((⟨"PegCoatsModel", "put", "(I)V"⟩, prog_14_method_3_code, 3, none), (12, false), mc_161)
set_option maxRecDepth 100000 in
/-- 162: PegCoatsModel.end(I)Z -/
noncomputable def mc_162 : pj_M := [(21, [(0, qe (.iload_n 1) 1 1), (1, qx (.ifCond .lt 11) 3 4 12 0 0), (4, qe (.iload_n 1) 1 5), (5, qe (.aload_n 0) 1 6), (6, qx (.getfield 13) 3 9 12 1 0), (9, qx (.if_icmp .le 17) 3 12 26 0 0), (12, qe (.aload_n 0) 1 13), (13, qw (.iconst 0) 1 14 0), (14, qx (.invokevirtual 216) 3 17 160 2 12), (17, qx (.ifCond .lt 7) 3 20 24 0 0), (20, qw (.iconst 1) 1 21 1), (21, qx (.goto 4) 3 24 25 0 0)]), (32, [(24, qw (.iconst 0) 1 25 0), (25, qe (.ireturn) 1 26), (26, qe (.aload_n 0) 1 27), (27, qe (.iload_n 1) 1 28), (28, qx (.putfield 13) 3 31 12 1 0), (31, qw (.iconst 1) 1 32 1), (32, qe (.ireturn) 1 33)])]
noncomputable def mt_162 : pj_T := ((⟨"PegCoatsModel", "end", "(I)Z"⟩, prog_14_method_5_code, 2, (some .boolean)), (12, true), mc_162)
set_option maxRecDepth 100000 in
/-- 163: PegCoatsModel.works()I -/
noncomputable def mc_163 : pj_M := [(19, [(0, qe (.aload_n 0) 1 1), (1, qe (.aload_n 0) 1 2), (2, qx (.getfield 13) 3 5 12 1 0), (5, qx (.putfield 17) 3 8 12 2 0), (8, qe (.aload_n 0) 1 9), (9, qw (.iconst 0) 1 10 0), (10, qx (.putfield 13) 3 13 12 1 0), (13, qe (.aload_n 0) 1 14), (14, qw (.iconst 0) 1 15 0), (15, qx (.putfield 26) 3 18 12 5 0), (18, qe (.aload_n 0) 1 19), (19, qw (.iconst 0) 1 20 0)]), (39, [(20, qx (.putfield 36) 3 23 12 8 0), (23, qe (.aload_n 0) 1 24), (24, qw (.iconst (-1)) 1 25 (-1)), (25, qx (.putfield 39) 3 28 12 9 0), (28, qe (.aload_n 0) 1 29), (29, qw (.iconst 1) 1 30 1), (30, qe (.aload_n 0) 1 31), (31, qx (.getfield 51) 3 34 12 13 0), (34, qe (.isub) 1 35), (35, qx (.putfield 100) 3 38 12 29 0), (38, qe (.aload_n 0) 1 39), (39, qx (.getfield 54) 3 42 12 14 2)]), (59, [(42, qe (.aload_n 0) 1 43), (43, qx (.getfield 100) 3 46 12 29 0), (46, qw (.iconst 0) 1 47 0), (47, qe (.iastore) 1 48), (48, qe (.aload_n 0) 1 49), (49, qx (.getfield 63) 3 52 12 17 2), (52, qe (.aload_n 0) 1 53), (53, qx (.getfield 100) 3 56 12 29 0), (56, qw (.iconst 0) 1 57 0), (57, qe (.iastore) 1 58), (58, qe (.aload_n 0) 1 59), (59, qx (.getfield 75) 3 62 12 21 2)]), (77, [(62, qe (.aload_n 0) 1 63), (63, qx (.getfield 100) 3 66 12 29 0), (66, qw (.iconst 0) 1 67 0), (67, qe (.iastore) 1 68), (68, qw (.iconst 3) 1 69 3), (69, qe (.aload_n 0) 1 70), (70, qx (.getfield 100) 3 73 12 29 0), (73, qe (.imul) 1 74), (74, qe (.istore_n 1) 1 75), (75, qe (.iload_n 1) 1 76), (76, qw (.iconst 3) 1 77 3), (77, qe (.aload_n 0) 1 78)]), (97, [(78, qx (.getfield 100) 3 81 12 29 0), (81, qe (.imul) 1 82), (82, qw (.iconst 3) 1 83 3), (83, qe (.iadd) 1 84), (84, qx (.if_icmp .ge 16) 3 87 100 0 0), (87, qe (.aload_n 0) 1 88), (88, qx (.getfield 78) 3 91 12 22 2), (91, qe (.iload_n 1) 1 92), (92, qw (.iconst (-1)) 1 93 (-1)), (93, qe (.iastore) 1 94), (94, qw (.iinc 1 1) 3 97 1), (97, qx (.goto (-22)) 3 100 75 0 0)]), (119, [(100, qe (.aload_n 0) 1 101), (101, qw (.iconst 0) 1 102 0), (102, qx (.putfield 97) 3 105 12 28 0), (105, qw (.iconst 0) 1 106 0), (106, qe (.istore_n 1) 1 107), (107, qe (.aload_n 0) 1 108), (108, qx (.invokevirtual 241) 3 111 164 1 12), (111, qe (.aload_n 0) 1 112), (112, qx (.getfield 36) 3 115 12 8 0), (115, qx (.ifCond .ne 25) 3 118 140 0 0), (118, qe (.aload_n 0) 1 119), (119, qx (.getfield 20) 3 122 12 3 0)]), (145, [(122, qx (.ifCond .eq 18) 3 125 140 0 0), (125, qe (.aload_n 0) 1 126), (126, qx (.invokevirtual 376) 3 129 167 1 12), (129, qw (.iinc 1 1) 3 132 1), (132, qe (.aload_n 0) 1 133), (133, qe (.iload_n 1) 1 134), (134, qx (.invokevirtual 379) 3 137 197 2 12), (137, qx (.goto (-26)) 3 140 111 0 0), (140, qe (.aload_n 0) 1 141), (141, qe (.aload_n 0) 1 142), (142, qx (.getfield 36) 3 145 12 8 0), (145, qx (.putfield 42) 3 148 12 10 0)]), (169, [(148, qe (.aload_n 0) 1 149), (149, qe (.aload_n 0) 1 150), (150, qx (.getfield 39) 3 153 12 9 0), (153, qx (.putfield 45) 3 156 12 11 0), (156, qe (.aload_n 0) 1 157), (157, qx (.getfield 36) 3 160 12 8 0), (160, qx (.ifCond .le 9) 3 163 169 0 0), (163, qe (.aload_n 0) 1 164), (164, qw (.iconst 1) 1 165 1), (165, qx (.invokevirtual 216) 3 168 160 2 12), (168, qe (.ireturn) 1 169), (169, qe (.aload_n 0) 1 170)]), (182, [(170, qe (.aload_n 0) 1 171), (171, qx (.getfield 100) 3 174 12 29 0), (174, qx (.putfield 51) 3 177 12 13 0), (177, qe (.aload_n 0) 1 178), (178, qx (.invokevirtual 382) 3 181 199 1 12), (181, qe (.iload_n 1) 1 182), (182, qe (.ireturn) 1 183)])]
noncomputable def mt_163 : pj_T := ((⟨"PegCoatsModel", "works", "()I"⟩, prog_14_method_41_code, 2, (some .int)), (12, false), mc_163)
set_option maxRecDepth 100000 in
/-- 164: PegCoatsModel.ahead()V -/
noncomputable def mc_164 : pj_M := [(19, [(0, qe (.aload_n 0) 1 1), (1, qx (.getfield 26) 3 4 12 5 0), (4, qe (.istore_n 1) 1 5), (5, qe (.iload_n 1) 1 6), (6, qe (.aload_n 0) 1 7), (7, qx (.getfield 17) 3 10 12 2 0), (10, qx (.if_icmp .ge 31) 3 13 41 0 0), (13, qe (.aload_n 0) 1 14), (14, qx (.getfield 7) 3 17 12 0 2), (17, qe (.iload_n 1) 1 18), (18, qe (.iaload) 1 19), (19, qw (.bipush 32) 2 21 32)]), (43, [(21, qx (.if_icmp .eq 14) 3 24 35 0 0), (24, qe (.aload_n 0) 1 25), (25, qx (.getfield 7) 3 28 12 0 2), (28, qe (.iload_n 1) 1 29), (29, qe (.iaload) 1 30), (30, qw (.bipush 10) 2 32 10), (32, qx (.if_icmp .ne 9) 3 35 41 0 0), (35, qw (.iinc 1 1) 3 38 1), (38, qx (.goto (-33)) 3 41 5 0 0), (41, qe (.aload_n 0) 1 42), (42, qe (.iload_n 1) 1 43), (43, qx (.putfield 23) 3 46 12 4 0)]), (63, [(46, qe (.aload_n 0) 1 47), (47, qe (.iload_n 1) 1 48), (48, qx (.putfield 26) 3 51 12 5 0), (51, qe (.aload_n 0) 1 52), (52, qw (.iconst 0) 1 53 0), (53, qx (.putfield 20) 3 56 12 3 0), (56, qe (.aload_n 0) 1 57), (57, qw (.iconst (-1)) 1 58 (-1)), (58, qx (.putfield 48) 3 61 12 12 0), (61, qe (.iload_n 1) 1 62), (62, qe (.aload_n 0) 1 63), (63, qx (.getfield 17) 3 66 12 2 0)]), (85, [(66, qx (.if_icmp .lt 4) 3 69 70 0 0), (69, qe (.return_) 1 70), (70, qe (.aload_n 0) 1 71), (71, qx (.getfield 7) 3 74 12 0 2), (74, qe (.iload_n 1) 1 75), (75, qe (.iaload) 1 76), (76, qx (.invokestatic 228) 3 79 165 1 0), (79, qe (.istore_n 2) 1 80), (80, qe (.aload_n 0) 1 81), (81, qx (.getfield 7) 3 84 12 0 2), (84, qe (.iload_n 1) 1 85), (85, qe (.iaload) 1 86)]), (107, [(86, qx (.invokestatic 232) 3 89 166 1 0), (89, qe (.istore_n 3) 1 90), (90, qe (.iload_n 2) 1 91), (91, qx (.ifCond .ne 7) 3 94 98 0 0), (94, qe (.iload_n 3) 1 95), (95, qx (.ifCond .eq 40) 3 98 135 0 0), (98, qe (.iload_n 1) 1 99), (99, qx (.ifCond .le 36) 3 102 135 0 0), (102, qe (.aload_n 0) 1 103), (103, qx (.getfield 7) 3 106 12 0 2), (106, qe (.iload_n 1) 1 107), (107, qw (.iconst 1) 1 108 1)]), (127, [(108, qe (.isub) 1 109), (109, qe (.iaload) 1 110), (110, qx (.invokestatic 228) 3 113 165 1 0), (113, qx (.ifCond .ne 17) 3 116 130 0 0), (116, qe (.aload_n 0) 1 117), (117, qx (.getfield 7) 3 120 12 0 2), (120, qe (.iload_n 1) 1 121), (121, qw (.iconst 1) 1 122 1), (122, qe (.isub) 1 123), (123, qe (.iaload) 1 124), (124, qx (.invokestatic 232) 3 127 166 1 0), (127, qx (.ifCond .eq 8) 3 130 135 0 0)]), (147, [(130, qe (.aload_n 0) 1 131), (131, qe (.iload_n 1) 1 132), (132, qx (.putfield 48) 3 135 12 12 0), (135, qe (.aload_n 0) 1 136), (136, qw (.iconst 0) 1 137 0), (137, qx (.putfield 29) 3 140 12 6 0), (140, qe (.aload_n 0) 1 141), (141, ql (.lconst 0) 1 142 0), (142, qx (.putfield 32) 3 145 12 7 1), (145, qe (.aload_n 0) 1 146), (146, qw (.iconst 3) 1 147 3), (147, qx (.putfield 20) 3 150 12 3 0)]), (167, [(150, qe (.aload_n 0) 1 151), (151, qe (.iload_n 1) 1 152), (152, qw (.iconst 1) 1 153 1), (153, qe (.iadd) 1 154), (154, qx (.putfield 26) 3 157 12 5 0), (157, qe (.iload_n 2) 1 158), (158, qx (.ifCond .ne 18) 3 161 176 0 0), (161, qe (.iload_n 3) 1 162), (162, qx (.ifCond .ne 14) 3 165 176 0 0), (165, qe (.aload_n 0) 1 166), (166, qe (.aload_n 0) 1 167), (167, qx (.getfield 7) 3 170 12 0 2)]), (189, [(170, qe (.iload_n 1) 1 171), (171, qe (.iaload) 1 172), (172, qx (.putfield 29) 3 175 12 6 0), (175, qe (.return_) 1 176), (176, qe (.aload_n 0) 1 177), (177, qe (.iload_n 2) 1 178), (178, qx (.ifCond .eq 7) 3 181 185 0 0), (181, qw (.iconst 1) 1 182 1), (182, qx (.goto 4) 3 185 186 0 0), (185, qw (.iconst 2) 1 186 2), (186, qx (.putfield 20) 3 189 12 3 0), (189, qe (.iload_n 2) 1 190)]), (212, [(190, qx (.ifCond .eq 8) 3 193 198 0 0), (193, qw (.bipush 6) 2 195 6), (195, qx (.goto 4) 3 198 199 0 0), (198, qw (.iconst 4) 1 199 4), (199, qe (.istore 4) 2 201), (201, qw (.iconst 0) 1 202 0), (202, qe (.istore 5) 2 204), (204, qe (.iload_n 1) 1 205), (205, qe (.aload_n 0) 1 206), (206, qx (.getfield 17) 3 209 12 2 0), (209, qx (.if_icmp .ge 125) 3 212 334 0 0), (212, qe (.iload_n 2) 1 213)]), (236, [(213, qx (.ifCond .eq 18) 3 216 231 0 0), (216, qe (.aload_n 0) 1 217), (217, qx (.getfield 7) 3 220 12 0 2), (220, qe (.iload_n 1) 1 221), (221, qe (.iaload) 1 222), (222, qx (.invokestatic 228) 3 225 165 1 0), (225, qx (.ifCond .eq 109) 3 228 334 0 0), (228, qx (.goto 15) 3 231 243 0 0), (231, qe (.aload_n 0) 1 232), (232, qx (.getfield 7) 3 235 12 0 2), (235, qe (.iload_n 1) 1 236), (236, qe (.iaload) 1 237)]), (260, [(237, qx (.invokestatic 232) 3 240 166 1 0), (240, qx (.ifCond .eq 94) 3 243 334 0 0), (243, qe (.iload 5) 2 245), (245, qe (.iload 4) 2 247), (247, qx (.if_icmp .ne 16) 3 250 263 0 0), (250, qe (.aload_n 0) 1 251), (251, qx (.getfield 48) 3 254 12 12 0), (254, qw (.iconst (-1)) 1 255 (-1)), (255, qx (.if_icmp .ne 8) 3 258 263 0 0), (258, qe (.aload_n 0) 1 259), (259, qe (.iload_n 1) 1 260), (260, qx (.putfield 48) 3 263 12 12 0)]), (283, [(263, qe (.iload 5) 2 265), (265, qe (.iload 4) 2 267), (267, qx (.if_icmp .ge 26) 3 270 293 0 0), (270, qe (.iload_n 2) 1 271), (271, qx (.ifCond .eq 22) 3 274 293 0 0), (274, qe (.aload_n 0) 1 275), (275, qe (.aload_n 0) 1 276), (276, qx (.getfield 32) 3 279 12 7 1), (279, qw (.bipush 8) 2 281 8), (281, qe (.lshl) 1 282), (282, qe (.aload_n 0) 1 283), (283, qx (.getfield 7) 3 286 12 0 2)]), (305, [(286, qe (.iload_n 1) 1 287), (287, qe (.iaload) 1 288), (288, qe (.i2l) 1 289), (289, qe (.lor) 1 290), (290, qx (.putfield 32) 3 293 12 7 1), (293, qe (.iload 5) 2 295), (295, qe (.iload 4) 2 297), (297, qx (.if_icmp .ge 28) 3 300 325 0 0), (300, qe (.iload_n 3) 1 301), (301, qx (.ifCond .eq 24) 3 304 325 0 0), (304, qe (.aload_n 0) 1 305), (305, qw (.bipush 10) 2 307 10)]), (325, [(307, qe (.aload_n 0) 1 308), (308, qx (.getfield 29) 3 311 12 6 0), (311, qe (.imul) 1 312), (312, qe (.aload_n 0) 1 313), (313, qx (.getfield 7) 3 316 12 0 2), (316, qe (.iload_n 1) 1 317), (317, qe (.iaload) 1 318), (318, qe (.iadd) 1 319), (319, qw (.bipush 48) 2 321 48), (321, qe (.isub) 1 322), (322, qx (.putfield 29) 3 325 12 6 0), (325, qw (.iinc 5 1) 3 328 1)]), (339, [(328, qw (.iinc 1 1) 3 331 1), (331, qx (.goto (-127)) 3 334 204 0 0), (334, qe (.aload_n 0) 1 335), (335, qe (.iload_n 1) 1 336), (336, qx (.putfield 26) 3 339 12 5 0), (339, qe (.return_) 1 340)])]
noncomputable def mt_164 : pj_T := ((⟨"PegCoatsModel", "ahead", "()V"⟩, prog_14_method_10_code, 6, none), (12, false), mc_164)
set_option maxRecDepth 100000 in
/-- 165: PegCoatsModel.isLetter(I)Z -/
noncomputable def mc_165 : pj_M := [(17, [(0, qe (.iload_n 0) 1 1), (1, qw (.bipush 97) 2 3 97), (3, qx (.if_icmp .lt 13) 3 6 16 0 0), (6, qe (.iload_n 0) 1 7), (7, qw (.bipush 122) 2 9 122), (9, qx (.if_icmp .gt 7) 3 12 16 0 0), (12, qw (.iconst 1) 1 13 1), (13, qx (.goto 4) 3 16 17 0 0), (16, qw (.iconst 0) 1 17 0), (17, qe (.ireturn) 1 18)])]
noncomputable def mt_165 : pj_T := ((⟨"PegCoatsModel", "isLetter", "(I)Z"⟩, prog_14_method_7_code, 1, (some .boolean)), (12, true), mc_165)
set_option maxRecDepth 100000 in
/-- 166: PegCoatsModel.isDigit(I)Z -/
noncomputable def mc_166 : pj_M := [(17, [(0, qe (.iload_n 0) 1 1), (1, qw (.bipush 48) 2 3 48), (3, qx (.if_icmp .lt 13) 3 6 16 0 0), (6, qe (.iload_n 0) 1 7), (7, qw (.bipush 57) 2 9 57), (9, qx (.if_icmp .gt 7) 3 12 16 0 0), (12, qw (.iconst 1) 1 13 1), (13, qx (.goto 4) 3 16 17 0 0), (16, qw (.iconst 0) 1 17 0), (17, qe (.ireturn) 1 18)])]
noncomputable def mt_166 : pj_T := ((⟨"PegCoatsModel", "isDigit", "(I)Z"⟩, prog_14_method_8_code, 1, (some .boolean)), (12, true), mc_166)
set_option maxRecDepth 100000 in
/-- 167: PegCoatsModel.statement()V -/
noncomputable def mc_167 : pj_M := [(23, [(0, qe (.aload_n 0) 1 1), (1, qx (.invokevirtual 235) 3 4 168 1 12), (4, qe (.aload_n 0) 1 5), (5, qx (.getfield 36) 3 8 12 8 0), (8, qx (.ifCond .le 4) 3 11 12 0 0), (11, qe (.return_) 1 12), (12, qe (.aload_n 0) 1 13), (13, ql (.ldc2_w 244) 3 16 1668243828), (16, qx (.invokevirtual 304) 3 19 170 2 12), (19, qx (.ifCond .eq 10) 3 22 29 0 0), (22, qe (.aload_n 0) 1 23), (23, qx (.invokevirtual 359) 3 26 171 1 12)]), (53, [(26, qx (.goto 117) 3 29 143 0 0), (29, qe (.aload_n 0) 1 30), (30, ql (.ldc2_w 250) 3 33 7168366), (33, qx (.invokevirtual 304) 3 36 170 2 12), (36, qx (.ifCond .eq 10) 3 39 46 0 0), (39, qe (.aload_n 0) 1 40), (40, qx (.invokevirtual 362) 3 43 180 1 12), (43, qx (.goto 100) 3 46 143 0 0), (46, qe (.aload_n 0) 1 47), (47, ql (.ldc2_w 254) 3 50 512801993331), (50, qx (.invokevirtual 304) 3 53 170 2 12), (53, qx (.ifCond .eq 10) 3 56 63 0 0)]), (81, [(56, qe (.aload_n 0) 1 57), (57, qx (.invokevirtual 365) 3 60 181 1 12), (60, qx (.goto 83) 3 63 143 0 0), (63, qe (.aload_n 0) 1 64), (64, ql (.ldc2_w 258) 3 67 512735997299), (67, qx (.invokevirtual 304) 3 70 170 2 12), (70, qx (.ifCond .eq 11) 3 73 81 0 0), (73, qe (.aload_n 0) 1 74), (74, qw (.iconst 0) 1 75 0), (75, qx (.invokevirtual 368) 3 78 184 2 12), (78, qx (.goto 65) 3 81 143 0 0), (81, qe (.aload_n 0) 1 82)]), (109, [(82, ql (.ldc2_w 260) 3 85 444301539187), (85, qx (.invokevirtual 304) 3 88 170 2 12), (88, qx (.ifCond .eq 11) 3 91 99 0 0), (91, qe (.aload_n 0) 1 92), (92, qw (.iconst 1) 1 93 1), (93, qx (.invokevirtual 368) 3 96 184 2 12), (96, qx (.goto 47) 3 99 143 0 0), (99, qe (.aload_n 0) 1 100), (100, ql (.ldc2_w 262) 3 103 119182682645875), (103, qx (.invokevirtual 304) 3 106 170 2 12), (106, qx (.ifCond .eq 11) 3 109 117 0 0), (109, qe (.aload_n 0) 1 110)]), (135, [(110, qw (.iconst 2) 1 111 2), (111, qx (.invokevirtual 368) 3 114 184 2 12), (114, qx (.goto 29) 3 117 143 0 0), (117, qe (.aload_n 0) 1 118), (118, ql (.ldc2_w 264) 3 121 1718186597), (121, qx (.invokevirtual 304) 3 124 170 2 12), (124, qx (.ifCond .eq 10) 3 127 134 0 0), (127, qe (.aload_n 0) 1 128), (128, qx (.invokevirtual 371) 3 131 196 1 12), (131, qx (.goto 12) 3 134 143 0 0), (134, qe (.aload_n 0) 1 135), (135, qw (.iconst 1) 1 136 1)]), (143, [(136, qe (.aload_n 0) 1 137), (137, qx (.getfield 23) 3 140 12 4 0), (140, qx (.invokevirtual 224) 3 143 169 3 12), (143, qe (.return_) 1 144)])]
noncomputable def mt_167 : pj_T := ((⟨"PegCoatsModel", "statement", "()V"⟩, prog_14_method_39_code, 1, none), (12, false), mc_167)
set_option maxRecDepth 100000 in
/-- 168: PegCoatsModel.lex()V -/
noncomputable def mc_168 : pj_M := [(17, [(0, qe (.aload_n 0) 1 1), (1, qx (.getfield 48) 3 4 12 12 0), (4, qw (.iconst (-1)) 1 5 (-1)), (5, qx (.if_icmp .eq 12) 3 8 17 0 0), (8, qe (.aload_n 0) 1 9), (9, qw (.iconst 1) 1 10 1), (10, qe (.aload_n 0) 1 11), (11, qx (.getfield 48) 3 14 12 12 0), (14, qx (.invokevirtual 224) 3 17 169 3 12), (17, qe (.return_) 1 18)])]
noncomputable def mt_168 : pj_T := ((⟨"PegCoatsModel", "lex", "()V"⟩, prog_14_method_9_code, 1, none), (12, false), mc_168)
set_option maxRecDepth 100000 in
/-- 169: PegCoatsModel.blame(II)V -/
noncomputable def mc_169 : pj_M := [(18, [(0, qe (.aload_n 0) 1 1), (1, qx (.getfield 36) 3 4 12 8 0), (4, qx (.ifCond .le 4) 3 7 8 0 0), (7, qe (.return_) 1 8), (8, qe (.aload_n 0) 1 9), (9, qe (.iload_n 1) 1 10), (10, qx (.putfield 36) 3 13 12 8 0), (13, qe (.aload_n 0) 1 14), (14, qe (.iload_n 2) 1 15), (15, qx (.putfield 39) 3 18 12 9 0), (18, qe (.return_) 1 19)])]
noncomputable def mt_169 : pj_T := ((⟨"PegCoatsModel", "blame", "(II)V"⟩, prog_14_method_6_code, 3, none), (12, false), mc_169)
set_option maxRecDepth 100000 in
/-- 170: PegCoatsModel.isWord(J)Z -/
noncomputable def mc_170 : pj_M := [(21, [(0, qe (.aload_n 0) 1 1), (1, qx (.getfield 20) 3 4 12 3 0), (4, qw (.iconst 1) 1 5 1), (5, qx (.if_icmp .ne 16) 3 8 21 0 0), (8, qe (.aload_n 0) 1 9), (9, qx (.getfield 32) 3 12 12 7 1), (12, qe (.lload_n 1) 1 13), (13, qe (.lcmp) 1 14), (14, qx (.ifCond .ne 7) 3 17 21 0 0), (17, qw (.iconst 1) 1 18 1), (18, qx (.goto 4) 3 21 22 0 0), (21, qw (.iconst 0) 1 22 0)]), (22, [(22, qe (.ireturn) 1 23)])]
noncomputable def mt_170 : pj_T := ((⟨"PegCoatsModel", "isWord", "(J)Z"⟩, prog_14_method_12_code, 3, (some .boolean)), (12, true), mc_170)
set_option maxRecDepth 100000 in
/-- 171: PegCoatsModel.coating()V -/
noncomputable def mc_171 : pj_M := [(20, [(0, qe (.aload_n 0) 1 1), (1, qe (.aload_n 0) 1 2), (2, qx (.getfield 54) 3 5 12 14 2), (5, qe (.aload_n 0) 1 6), (6, qx (.getfield 100) 3 9 12 29 0), (9, qe (.iaload) 1 10), (10, qw (.bipush 8) 2 12 8), (12, qx (.if_icmp .ne 7) 3 15 19 0 0), (15, qw (.iconst 1) 1 16 1), (16, qx (.goto 4) 3 19 20 0 0), (19, qw (.iconst 0) 1 20 0), (20, qx (.invokevirtual 333) 3 23 172 2 12)]), (43, [(23, qx (.ifCond .ne 4) 3 26 27 0 0), (26, qe (.return_) 1 27), (27, qw (.bipush 8) 2 29 8), (29, qe (.aload_n 0) 1 30), (30, qx (.getfield 100) 3 33 12 29 0), (33, qe (.imul) 1 34), (34, qe (.aload_n 0) 1 35), (35, qx (.getfield 54) 3 38 12 14 2), (38, qe (.aload_n 0) 1 39), (39, qx (.getfield 100) 3 42 12 29 0), (42, qe (.iaload) 1 43), (43, qe (.iadd) 1 44)]), (63, [(44, qe (.istore_n 1) 1 45), (45, qe (.aload_n 0) 1 46), (46, qx (.getfield 90) 3 49 12 26 2), (49, qe (.iload_n 1) 1 50), (50, qe (.aload_n 0) 1 51), (51, qx (.invokevirtual 337) 3 54 173 1 12), (54, qe (.lastore) 1 55), (55, qe (.aload_n 0) 1 56), (56, ql (.ldc2_w 246) 3 59 1936292453), (59, qx (.invokevirtual 341) 3 62 177 2 12), (62, qe (.aload_n 0) 1 63), (63, qx (.getfield 57) 3 66 12 15 2)]), (86, [(66, qe (.iload_n 1) 1 67), (67, qe (.aload_n 0) 1 68), (68, qw (.iconst 1) 1 69 1), (69, qw (.bipush 99) 2 71 99), (71, qx (.invokevirtual 345) 3 74 178 3 12), (74, qe (.iastore) 1 75), (75, qe (.aload_n 0) 1 76), (76, ql (.ldc2_w 248) 3 79 7364985), (79, qx (.invokevirtual 341) 3 82 177 2 12), (82, qe (.aload_n 0) 1 83), (83, qx (.getfield 60) 3 86 12 16 2), (86, qe (.iload_n 1) 1 87)]), (107, [(87, qe (.aload_n 0) 1 88), (88, qw (.iconst 0) 1 89 0), (89, qw (.bipush 99) 2 91 99), (91, qx (.invokevirtual 345) 3 94 178 3 12), (94, qe (.iastore) 1 95), (95, qe (.aload_n 0) 1 96), (96, qx (.getfield 36) 3 99 12 8 0), (99, qx (.ifCond .ne 16) 3 102 115 0 0), (102, qe (.aload_n 0) 1 103), (103, qx (.getfield 54) 3 106 12 14 2), (106, qe (.aload_n 0) 1 107), (107, qx (.getfield 100) 3 110 12 29 0)]), (115, [(110, qe (.dup2) 1 111), (111, qe (.iaload) 1 112), (112, qw (.iconst 1) 1 113 1), (113, qe (.iadd) 1 114), (114, qe (.iastore) 1 115), (115, qe (.return_) 1 116)])]
noncomputable def mt_171 : pj_T := ((⟨"PegCoatsModel", "coating", "()V"⟩, prog_14_method_32_code, 2, none), (12, false), mc_171)
set_option maxRecDepth 100000 in
/-- 172: PegCoatsModel.counts(Z)Z -/
noncomputable def mc_172 : pj_M := [(22, [(0, qe (.aload_n 0) 1 1), (1, qx (.getfield 36) 3 4 12 8 0), (4, qx (.ifCond .ne 17) 3 7 21 0 0), (7, qe (.iload_n 1) 1 8), (8, qx (.ifCond .eq 13) 3 11 21 0 0), (11, qe (.aload_n 0) 1 12), (12, qw (.bipush 6) 2 14 6), (14, qe (.aload_n 0) 1 15), (15, qx (.getfield 23) 3 18 12 4 0), (18, qx (.invokevirtual 224) 3 21 169 3 12), (21, qe (.aload_n 0) 1 22), (22, qx (.getfield 36) 3 25 12 8 0)]), (44, [(25, qx (.ifCond .ne 7) 3 28 32 0 0), (28, qe (.aload_n 0) 1 29), (29, qx (.invokevirtual 241) 3 32 164 1 12), (32, qe (.aload_n 0) 1 33), (33, qx (.getfield 36) 3 36 12 8 0), (36, qx (.ifCond .ne 7) 3 39 43 0 0), (39, qw (.iconst 1) 1 40 1), (40, qx (.goto 4) 3 43 44 0 0), (43, qw (.iconst 0) 1 44 0), (44, qe (.ireturn) 1 45)])]
noncomputable def mt_172 : pj_T := ((⟨"PegCoatsModel", "counts", "(Z)Z"⟩, prog_14_method_28_code, 2, (some .boolean)), (12, true), mc_172)
set_option maxRecDepth 100000 in
/-- 173: PegCoatsModel.fresh()J -/
noncomputable def mc_173 : pj_M := [(21, [(0, qe (.aload_n 0) 1 1), (1, qx (.invokevirtual 235) 3 4 168 1 12), (4, qe (.aload_n 0) 1 5), (5, qx (.getfield 36) 3 8 12 8 0), (8, qx (.ifCond .le 5) 3 11 13 0 0), (11, ql (.lconst 0) 1 12 0), (12, qe (.lreturn) 1 13), (13, qe (.aload_n 0) 1 14), (14, qx (.getfield 20) 3 17 12 3 0), (17, qw (.iconst 1) 1 18 1), (18, qx (.if_icmp .ne 14) 3 21 32 0 0), (21, qe (.aload_n 0) 1 22)]), (45, [(22, qe (.aload_n 0) 1 23), (23, qx (.getfield 32) 3 26 12 7 1), (26, qx (.invokevirtual 323) 3 29 174 2 12), (29, qx (.ifCond .eq 12) 3 32 41 0 0), (32, qe (.aload_n 0) 1 33), (33, qw (.iconst 1) 1 34 1), (34, qe (.aload_n 0) 1 35), (35, qx (.getfield 23) 3 38 12 4 0), (38, qx (.invokevirtual 224) 3 41 169 3 12), (41, qe (.aload_n 0) 1 42), (42, qx (.getfield 36) 3 45 12 8 0), (45, qx (.ifCond .ne 36) 3 48 81 0 0)]), (69, [(48, qe (.aload_n 0) 1 49), (49, qe (.aload_n 0) 1 50), (50, qx (.getfield 32) 3 53 12 7 1), (53, qx (.invokevirtual 326) 3 56 175 2 12), (56, qw (.iconst (-1)) 1 57 (-1)), (57, qx (.if_icmp .ne 15) 3 60 72 0 0), (60, qe (.aload_n 0) 1 61), (61, qe (.aload_n 0) 1 62), (62, qx (.getfield 32) 3 65 12 7 1), (65, qx (.invokevirtual 330) 3 68 176 2 12), (68, qw (.iconst (-1)) 1 69 (-1)), (69, qx (.if_icmp .eq 12) 3 72 81 0 0)]), (93, [(72, qe (.aload_n 0) 1 73), (73, qw (.iconst 2) 1 74 2), (74, qe (.aload_n 0) 1 75), (75, qx (.getfield 23) 3 78 12 4 0), (78, qx (.invokevirtual 224) 3 81 169 3 12), (81, qe (.aload_n 0) 1 82), (82, qx (.getfield 32) 3 85 12 7 1), (85, qe (.lstore_n 1) 1 86), (86, qe (.aload_n 0) 1 87), (87, qx (.getfield 36) 3 90 12 8 0), (90, qx (.ifCond .ne 7) 3 93 97 0 0), (93, qe (.aload_n 0) 1 94)]), (98, [(94, qx (.invokevirtual 241) 3 97 164 1 12), (97, qe (.lload_n 1) 1 98), (98, qe (.lreturn) 1 99)])]
noncomputable def mt_173 : pj_T := ((⟨"PegCoatsModel", "fresh", "()J"⟩, prog_14_method_31_code, 3, (some .long)), (12, false), mc_173)
set_option maxRecDepth 100000 in
/-- 174: PegCoatsModel.isOwn(J)Z -/
noncomputable def mc_174 : pj_M := [(21, [(0, qe (.lload_n 1) 1 1), (1, ql (.ldc2_w 244) 3 4 1668243828), (4, qe (.lcmp) 1 5), (5, qx (.ifCond .eq 35) 3 8 40 0 0), (8, qe (.lload_n 1) 1 9), (9, ql (.ldc2_w 246) 3 12 1936292453), (12, qe (.lcmp) 1 13), (13, qx (.ifCond .eq 27) 3 16 40 0 0), (16, qe (.lload_n 1) 1 17), (17, ql (.ldc2_w 248) 3 20 7364985), (20, qe (.lcmp) 1 21), (21, qx (.ifCond .eq 19) 3 24 40 0 0)]), (43, [(24, qe (.lload_n 1) 1 25), (25, ql (.ldc2_w 250) 3 28 7168366), (28, qe (.lcmp) 1 29), (29, qx (.ifCond .eq 11) 3 32 40 0 0), (32, qe (.lload_n 1) 1 33), (33, ql (.ldc2_w 252) 3 36 6383461), (36, qe (.lcmp) 1 37), (37, qx (.ifCond .ne 5) 3 40 42 0 0), (40, qw (.iconst 1) 1 41 1), (41, qe (.ireturn) 1 42), (42, qe (.lload_n 1) 1 43), (43, ql (.ldc2_w 254) 3 46 512801993331)]), (67, [(46, qe (.lcmp) 1 47), (47, qx (.ifCond .eq 35) 3 50 82 0 0), (50, qe (.lload_n 1) 1 51), (51, ql (.ldc2_w 256) 3 54 28518), (54, qe (.lcmp) 1 55), (55, qx (.ifCond .eq 27) 3 58 82 0 0), (58, qe (.lload_n 1) 1 59), (59, ql (.ldc2_w 258) 3 62 512735997299), (62, qe (.lcmp) 1 63), (63, qx (.ifCond .eq 19) 3 66 82 0 0), (66, qe (.lload_n 1) 1 67), (67, ql (.ldc2_w 260) 3 70 444301539187)]), (89, [(70, qe (.lcmp) 1 71), (71, qx (.ifCond .eq 11) 3 74 82 0 0), (74, qe (.lload_n 1) 1 75), (75, ql (.ldc2_w 262) 3 78 119182682645875), (78, qe (.lcmp) 1 79), (79, qx (.ifCond .ne 5) 3 82 84 0 0), (82, qw (.iconst 1) 1 83 1), (83, qe (.ireturn) 1 84), (84, qe (.lload_n 1) 1 85), (85, ql (.ldc2_w 264) 3 88 1718186597), (88, qe (.lcmp) 1 89), (89, qx (.ifCond .eq 35) 3 92 124 0 0)]), (113, [(92, qe (.lload_n 1) 1 93), (93, ql (.ldc2_w 266) 3 96 2036687218), (96, qe (.lcmp) 1 97), (97, qx (.ifCond .eq 27) 3 100 124 0 0), (100, qe (.lload_n 1) 1 101), (101, ql (.ldc2_w 268) 3 104 119200079769191), (104, qe (.lcmp) 1 105), (105, qx (.ifCond .eq 19) 3 108 124 0 0), (108, qe (.lload_n 1) 1 109), (109, ql (.ldc2_w 270) 3 112 483006772069), (112, qe (.lcmp) 1 113), (113, qx (.ifCond .eq 11) 3 116 124 0 0)]), (135, [(116, qe (.lload_n 1) 1 117), (117, ql (.ldc2_w 272) 3 120 109330027537764), (120, qe (.lcmp) 1 121), (121, qx (.ifCond .ne 5) 3 124 126 0 0), (124, qw (.iconst 1) 1 125 1), (125, qe (.ireturn) 1 126), (126, qe (.lload_n 1) 1 127), (127, ql (.ldc2_w 274) 3 130 26982), (130, qe (.lcmp) 1 131), (131, qx (.ifCond .eq 35) 3 134 166 0 0), (134, qe (.lload_n 1) 1 135), (135, ql (.ldc2_w 276) 3 138 28530)]), (159, [(138, qe (.lcmp) 1 139), (139, qx (.ifCond .eq 27) 3 142 166 0 0), (142, qe (.lload_n 1) 1 143), (143, ql (.ldc2_w 278) 3 146 6385252), (146, qe (.lcmp) 1 147), (147, qx (.ifCond .eq 19) 3 150 166 0 0), (150, qe (.lload_n 1) 1 151), (151, ql (.ldc2_w 280) 3 154 7237492), (154, qe (.lcmp) 1 155), (155, qx (.ifCond .eq 11) 3 158 166 0 0), (158, qe (.lload_n 1) 1 159), (159, ql (.ldc2_w 282) 3 162 6384748)]), (181, [(162, qe (.lcmp) 1 163), (163, qx (.ifCond .ne 5) 3 166 168 0 0), (166, qw (.iconst 1) 1 167 1), (167, qe (.ireturn) 1 168), (168, qe (.lload_n 1) 1 169), (169, ql (.ldc2_w 284) 3 172 7170414), (172, qe (.lcmp) 1 173), (173, qx (.ifCond .eq 11) 3 176 184 0 0), (176, qe (.lload_n 1) 1 177), (177, ql (.ldc2_w 286) 3 180 7168376), (180, qe (.lcmp) 1 181), (181, qx (.ifCond .ne 5) 3 184 186 0 0)]), (187, [(184, qw (.iconst 1) 1 185 1), (185, qe (.ireturn) 1 186), (186, qw (.iconst 0) 1 187 0), (187, qe (.ireturn) 1 188)])]
noncomputable def mt_174 : pj_T := ((⟨"PegCoatsModel", "isOwn", "(J)Z"⟩, prog_14_method_14_code, 3, (some .boolean)), (12, true), mc_174)
set_option maxRecDepth 100000 in
/-- 175: PegCoatsModel.coatNamed(J)I -/
noncomputable def mc_175 : pj_M := [(19, [(0, qw (.iconst 0) 1 1 0), (1, qe (.istore_n 3) 1 2), (2, qe (.iload_n 3) 1 3), (3, qe (.aload_n 0) 1 4), (4, qx (.getfield 54) 3 7 12 14 2), (7, qe (.aload_n 0) 1 8), (8, qx (.getfield 100) 3 11 12 29 0), (11, qe (.iaload) 1 12), (12, qx (.if_icmp .ge 30) 3 15 42 0 0), (15, qe (.aload_n 0) 1 16), (16, qx (.getfield 90) 3 19 12 26 2), (19, qw (.bipush 8) 2 21 8)]), (36, [(21, qe (.aload_n 0) 1 22), (22, qx (.getfield 100) 3 25 12 29 0), (25, qe (.imul) 1 26), (26, qe (.iload_n 3) 1 27), (27, qe (.iadd) 1 28), (28, qe (.laload) 1 29), (29, qe (.lload_n 1) 1 30), (30, qe (.lcmp) 1 31), (31, qx (.ifCond .ne 5) 3 34 36 0 0), (34, qe (.iload_n 3) 1 35), (35, qe (.ireturn) 1 36), (36, qw (.iinc 3 1) 3 39 1)]), (43, [(39, qx (.goto (-37)) 3 42 2 0 0), (42, qw (.iconst (-1)) 1 43 (-1)), (43, qe (.ireturn) 1 44)])]
noncomputable def mt_175 : pj_T := ((⟨"PegCoatsModel", "coatNamed", "(J)I"⟩, prog_14_method_15_code, 4, (some .int)), (12, false), mc_175)
set_option maxRecDepth 100000 in
/-- 176: PegCoatsModel.manNamed(J)I -/
noncomputable def mc_176 : pj_M := [(19, [(0, qw (.iconst 0) 1 1 0), (1, qe (.istore_n 3) 1 2), (2, qe (.iload_n 3) 1 3), (3, qe (.aload_n 0) 1 4), (4, qx (.getfield 63) 3 7 12 17 2), (7, qe (.aload_n 0) 1 8), (8, qx (.getfield 100) 3 11 12 29 0), (11, qe (.iaload) 1 12), (12, qx (.if_icmp .ge 30) 3 15 42 0 0), (15, qe (.aload_n 0) 1 16), (16, qx (.getfield 94) 3 19 12 27 2), (19, qw (.bipush 7) 2 21 7)]), (36, [(21, qe (.aload_n 0) 1 22), (22, qx (.getfield 100) 3 25 12 29 0), (25, qe (.imul) 1 26), (26, qe (.iload_n 3) 1 27), (27, qe (.iadd) 1 28), (28, qe (.laload) 1 29), (29, qe (.lload_n 1) 1 30), (30, qe (.lcmp) 1 31), (31, qx (.ifCond .ne 5) 3 34 36 0 0), (34, qe (.iload_n 3) 1 35), (35, qe (.ireturn) 1 36), (36, qw (.iinc 3 1) 3 39 1)]), (43, [(39, qx (.goto (-37)) 3 42 2 0 0), (42, qw (.iconst (-1)) 1 43 (-1)), (43, qe (.ireturn) 1 44)])]
noncomputable def mt_176 : pj_T := ((⟨"PegCoatsModel", "manNamed", "(J)I"⟩, prog_14_method_16_code, 4, (some .int)), (12, false), mc_176)
set_option maxRecDepth 100000 in
/-- 177: PegCoatsModel.must(J)V -/
noncomputable def mc_177 : pj_M := [(21, [(0, qe (.aload_n 0) 1 1), (1, qx (.invokevirtual 235) 3 4 168 1 12), (4, qe (.aload_n 0) 1 5), (5, qx (.getfield 36) 3 8 12 8 0), (8, qx (.ifCond .le 4) 3 11 12 0 0), (11, qe (.return_) 1 12), (12, qe (.aload_n 0) 1 13), (13, qe (.lload_n 1) 1 14), (14, qx (.invokevirtual 304) 3 17 170 2 12), (17, qx (.ifCond .ne 12) 3 20 29 0 0), (20, qe (.aload_n 0) 1 21), (21, qw (.iconst 1) 1 22 1)]), (40, [(22, qe (.aload_n 0) 1 23), (23, qx (.getfield 23) 3 26 12 4 0), (26, qx (.invokevirtual 224) 3 29 169 3 12), (29, qe (.aload_n 0) 1 30), (30, qx (.getfield 36) 3 33 12 8 0), (33, qx (.ifCond .ne 7) 3 36 40 0 0), (36, qe (.aload_n 0) 1 37), (37, qx (.invokevirtual 241) 3 40 164 1 12), (40, qe (.return_) 1 41)])]
noncomputable def mt_177 : pj_T := ((⟨"PegCoatsModel", "must", "(J)V"⟩, prog_14_method_29_code, 3, none), (12, false), mc_177)
set_option maxRecDepth 100000 in
/-- 178: PegCoatsModel.number(II)I -/
noncomputable def mc_178 : pj_M := [(21, [(0, qe (.aload_n 0) 1 1), (1, qx (.invokevirtual 235) 3 4 168 1 12), (4, qe (.aload_n 0) 1 5), (5, qx (.getfield 36) 3 8 12 8 0), (8, qx (.ifCond .le 5) 3 11 13 0 0), (11, qw (.iconst 0) 1 12 0), (12, qe (.ireturn) 1 13), (13, qe (.aload_n 0) 1 14), (14, qx (.getfield 20) 3 17 12 3 0), (17, qw (.iconst 2) 1 18 2), (18, qx (.if_icmp .eq 12) 3 21 30 0 0), (21, qe (.aload_n 0) 1 22)]), (43, [(22, qw (.iconst 1) 1 23 1), (23, qe (.aload_n 0) 1 24), (24, qx (.getfield 23) 3 27 12 4 0), (27, qx (.invokevirtual 224) 3 30 169 3 12), (30, qe (.aload_n 0) 1 31), (31, qx (.getfield 36) 3 34 12 8 0), (34, qx (.ifCond .ne 24) 3 37 58 0 0), (37, qe (.aload_n 0) 1 38), (38, qx (.getfield 29) 3 41 12 6 0), (41, qe (.iload_n 1) 1 42), (42, qe (.iload_n 2) 1 43), (43, qx (.invokestatic 288) 3 46 179 3 0)]), (67, [(46, qx (.ifCond .ne 12) 3 49 58 0 0), (49, qe (.aload_n 0) 1 50), (50, qw (.iconst 4) 1 51 4), (51, qe (.aload_n 0) 1 52), (52, qx (.getfield 23) 3 55 12 4 0), (55, qx (.invokevirtual 224) 3 58 169 3 12), (58, qe (.aload_n 0) 1 59), (59, qx (.getfield 29) 3 62 12 6 0), (62, qe (.istore_n 3) 1 63), (63, qe (.aload_n 0) 1 64), (64, qx (.getfield 36) 3 67 12 8 0), (67, qx (.ifCond .ne 7) 3 70 74 0 0)]), (75, [(70, qe (.aload_n 0) 1 71), (71, qx (.invokevirtual 241) 3 74 164 1 12), (74, qe (.iload_n 3) 1 75), (75, qe (.ireturn) 1 76)])]
noncomputable def mt_178 : pj_T := ((⟨"PegCoatsModel", "number", "(II)I"⟩, prog_14_method_17_code, 4, (some .int)), (12, false), mc_178)
set_option maxRecDepth 100000 in
/-- 179: PegCoatsModel.is(III)Z -/
noncomputable def mc_179 : pj_M := [(15, [(0, qe (.iload_n 0) 1 1), (1, qe (.iload_n 1) 1 2), (2, qx (.if_icmp .lt 12) 3 5 14 0 0), (5, qe (.iload_n 0) 1 6), (6, qe (.iload_n 2) 1 7), (7, qx (.if_icmp .gt 7) 3 10 14 0 0), (10, qw (.iconst 1) 1 11 1), (11, qx (.goto 4) 3 14 15 0 0), (14, qw (.iconst 0) 1 15 0), (15, qe (.ireturn) 1 16)])]
noncomputable def mt_179 : pj_T := ((⟨"PegCoatsModel", "is", "(III)Z"⟩, prog_14_method_2_code, 3, (some .boolean)), (12, true), mc_179)
set_option maxRecDepth 100000 in
/-- 180: PegCoatsModel.manning()V -/
noncomputable def mc_180 : pj_M := [(20, [(0, qe (.aload_n 0) 1 1), (1, qe (.aload_n 0) 1 2), (2, qx (.getfield 63) 3 5 12 17 2), (5, qe (.aload_n 0) 1 6), (6, qx (.getfield 100) 3 9 12 29 0), (9, qe (.iaload) 1 10), (10, qw (.bipush 7) 2 12 7), (12, qx (.if_icmp .ne 7) 3 15 19 0 0), (15, qw (.iconst 1) 1 16 1), (16, qx (.goto 4) 3 19 20 0 0), (19, qw (.iconst 0) 1 20 0), (20, qx (.invokevirtual 333) 3 23 172 2 12)]), (43, [(23, qx (.ifCond .ne 4) 3 26 27 0 0), (26, qe (.return_) 1 27), (27, qw (.bipush 7) 2 29 7), (29, qe (.aload_n 0) 1 30), (30, qx (.getfield 100) 3 33 12 29 0), (33, qe (.imul) 1 34), (34, qe (.aload_n 0) 1 35), (35, qx (.getfield 63) 3 38 12 17 2), (38, qe (.aload_n 0) 1 39), (39, qx (.getfield 100) 3 42 12 29 0), (42, qe (.iaload) 1 43), (43, qe (.iadd) 1 44)]), (63, [(44, qe (.istore_n 1) 1 45), (45, qe (.aload_n 0) 1 46), (46, qx (.getfield 94) 3 49 12 27 2), (49, qe (.iload_n 1) 1 50), (50, qe (.aload_n 0) 1 51), (51, qx (.invokevirtual 337) 3 54 173 1 12), (54, qe (.lastore) 1 55), (55, qe (.aload_n 0) 1 56), (56, ql (.ldc2_w 246) 3 59 1936292453), (59, qx (.invokevirtual 341) 3 62 177 2 12), (62, qe (.aload_n 0) 1 63), (63, qx (.getfield 66) 3 66 12 18 2)]), (86, [(66, qe (.iload_n 1) 1 67), (67, qe (.aload_n 0) 1 68), (68, qw (.iconst 1) 1 69 1), (69, qw (.bipush 99) 2 71 99), (71, qx (.invokevirtual 345) 3 74 178 3 12), (74, qe (.iastore) 1 75), (75, qe (.aload_n 0) 1 76), (76, ql (.ldc2_w 252) 3 79 6383461), (79, qx (.invokevirtual 341) 3 82 177 2 12), (82, qe (.aload_n 0) 1 83), (83, qx (.getfield 69) 3 86 12 19 2), (86, qe (.iload_n 1) 1 87)]), (103, [(87, qe (.aload_n 0) 1 88), (88, qw (.iconst 0) 1 89 0), (89, qw (.bipush 99) 2 91 99), (91, qx (.invokevirtual 345) 3 94 178 3 12), (94, qe (.iastore) 1 95), (95, qe (.aload_n 0) 1 96), (96, qx (.getfield 72) 3 99 12 20 2), (99, qe (.iload_n 1) 1 100), (100, qw (.iconst (-1)) 1 101 (-1)), (101, qe (.iastore) 1 102), (102, qe (.aload_n 0) 1 103), (103, qx (.getfield 36) 3 106 12 8 0)]), (122, [(106, qx (.ifCond .ne 16) 3 109 122 0 0), (109, qe (.aload_n 0) 1 110), (110, qx (.getfield 63) 3 113 12 17 2), (113, qe (.aload_n 0) 1 114), (114, qx (.getfield 100) 3 117 12 29 0), (117, qe (.dup2) 1 118), (118, qe (.iaload) 1 119), (119, qw (.iconst 1) 1 120 1), (120, qe (.iadd) 1 121), (121, qe (.iastore) 1 122), (122, qe (.return_) 1 123)])]
noncomputable def mt_180 : pj_T := ((⟨"PegCoatsModel", "manning", "()V"⟩, prog_14_method_33_code, 2, none), (12, false), mc_180)
set_option maxRecDepth 100000 in
/-- 181: PegCoatsModel.wearing()V -/
noncomputable def mc_181 : pj_M := [(19, [(0, qe (.aload_n 0) 1 1), (1, qw (.iconst 0) 1 2 0), (2, qx (.invokevirtual 333) 3 5 172 2 12), (5, qx (.ifCond .ne 4) 3 8 9 0 0), (8, qe (.return_) 1 9), (9, qe (.aload_n 0) 1 10), (10, qe (.aload_n 0) 1 11), (11, qx (.invokevirtual 349) 3 14 182 1 12), (14, qx (.invokevirtual 330) 3 17 176 2 12), (17, qe (.istore_n 1) 1 18), (18, qe (.aload_n 0) 1 19), (19, qx (.getfield 36) 3 22 12 8 0)]), (42, [(22, qx (.ifCond .ne 35) 3 25 57 0 0), (25, qe (.iload_n 1) 1 26), (26, qw (.iconst (-1)) 1 27 (-1)), (27, qx (.if_icmp .eq 21) 3 30 48 0 0), (30, qe (.aload_n 0) 1 31), (31, qx (.getfield 72) 3 34 12 20 2), (34, qw (.bipush 7) 2 36 7), (36, qe (.aload_n 0) 1 37), (37, qx (.getfield 100) 3 40 12 29 0), (40, qe (.imul) 1 41), (41, qe (.iload_n 1) 1 42), (42, qe (.iadd) 1 43)]), (64, [(43, qe (.iaload) 1 44), (44, qw (.iconst (-1)) 1 45 (-1)), (45, qx (.if_icmp .eq 12) 3 48 57 0 0), (48, qe (.aload_n 0) 1 49), (49, qw (.iconst 3) 1 50 3), (50, qe (.aload_n 0) 1 51), (51, qx (.getfield 23) 3 54 12 4 0), (54, qx (.invokevirtual 224) 3 57 169 3 12), (57, qe (.aload_n 0) 1 58), (58, qx (.getfield 36) 3 61 12 8 0), (61, qx (.ifCond .ne 7) 3 64 68 0 0), (64, qe (.aload_n 0) 1 65)]), (88, [(65, qx (.invokevirtual 241) 3 68 164 1 12), (68, qe (.aload_n 0) 1 69), (69, ql (.ldc2_w 256) 3 72 28518), (72, qx (.invokevirtual 341) 3 75 177 2 12), (75, qe (.aload_n 0) 1 76), (76, qx (.getfield 36) 3 79 12 8 0), (79, qx (.ifCond .le 4) 3 82 83 0 0), (82, qe (.return_) 1 83), (83, qe (.aload_n 0) 1 84), (84, qe (.aload_n 0) 1 85), (85, qx (.invokevirtual 349) 3 88 182 1 12), (88, qx (.invokevirtual 326) 3 91 175 2 12)]), (112, [(91, qe (.istore_n 2) 1 92), (92, qe (.aload_n 0) 1 93), (93, qx (.getfield 36) 3 96 12 8 0), (96, qx (.ifCond .ne 25) 3 99 121 0 0), (99, qe (.iload_n 2) 1 100), (100, qw (.iconst (-1)) 1 101 (-1)), (101, qx (.if_icmp .eq 11) 3 104 112 0 0), (104, qe (.aload_n 0) 1 105), (105, qe (.iload_n 2) 1 106), (106, qx (.invokevirtual 352) 3 109 183 2 12), (109, qx (.ifCond .eq 12) 3 112 121 0 0), (112, qe (.aload_n 0) 1 113)]), (134, [(113, qw (.iconst 3) 1 114 3), (114, qe (.aload_n 0) 1 115), (115, qx (.getfield 23) 3 118 12 4 0), (118, qx (.invokevirtual 224) 3 121 169 3 12), (121, qe (.aload_n 0) 1 122), (122, qx (.getfield 36) 3 125 12 8 0), (125, qx (.ifCond .le 4) 3 128 129 0 0), (128, qe (.return_) 1 129), (129, qe (.aload_n 0) 1 130), (130, qx (.invokevirtual 241) 3 133 164 1 12), (133, qe (.aload_n 0) 1 134), (134, qx (.getfield 72) 3 137 12 20 2)]), (148, [(137, qw (.bipush 7) 2 139 7), (139, qe (.aload_n 0) 1 140), (140, qx (.getfield 100) 3 143 12 29 0), (143, qe (.imul) 1 144), (144, qe (.iload_n 1) 1 145), (145, qe (.iadd) 1 146), (146, qe (.iload_n 2) 1 147), (147, qe (.iastore) 1 148), (148, qe (.return_) 1 149)])]
noncomputable def mt_181 : pj_T := ((⟨"PegCoatsModel", "wearing", "()V"⟩, prog_14_method_36_code, 3, none), (12, false), mc_181)
set_option maxRecDepth 100000 in
/-- 182: PegCoatsModel.named()J -/
noncomputable def mc_182 : pj_M := [(21, [(0, qe (.aload_n 0) 1 1), (1, qx (.invokevirtual 235) 3 4 168 1 12), (4, qe (.aload_n 0) 1 5), (5, qx (.getfield 36) 3 8 12 8 0), (8, qx (.ifCond .le 5) 3 11 13 0 0), (11, ql (.lconst 0) 1 12 0), (12, qe (.lreturn) 1 13), (13, qe (.aload_n 0) 1 14), (14, qx (.getfield 20) 3 17 12 3 0), (17, qw (.iconst 1) 1 18 1), (18, qx (.if_icmp .ne 14) 3 21 32 0 0), (21, qe (.aload_n 0) 1 22)]), (45, [(22, qe (.aload_n 0) 1 23), (23, qx (.getfield 32) 3 26 12 7 1), (26, qx (.invokevirtual 323) 3 29 174 2 12), (29, qx (.ifCond .eq 12) 3 32 41 0 0), (32, qe (.aload_n 0) 1 33), (33, qw (.iconst 1) 1 34 1), (34, qe (.aload_n 0) 1 35), (35, qx (.getfield 23) 3 38 12 4 0), (38, qx (.invokevirtual 224) 3 41 169 3 12), (41, qe (.aload_n 0) 1 42), (42, qx (.getfield 32) 3 45 12 7 1), (45, qe (.lreturn) 1 46)])]
noncomputable def mt_182 : pj_T := ((⟨"PegCoatsModel", "named", "()J"⟩, prog_14_method_34_code, 1, (some .long)), (12, false), mc_182)
set_option maxRecDepth 100000 in
/-- 183: PegCoatsModel.isWorn(I)Z -/
noncomputable def mc_183 : pj_M := [(19, [(0, qw (.iconst 0) 1 1 0), (1, qe (.istore_n 2) 1 2), (2, qe (.iload_n 2) 1 3), (3, qe (.aload_n 0) 1 4), (4, qx (.getfield 63) 3 7 12 17 2), (7, qe (.aload_n 0) 1 8), (8, qx (.getfield 100) 3 11 12 29 0), (11, qe (.iaload) 1 12), (12, qx (.if_icmp .ge 29) 3 15 41 0 0), (15, qe (.aload_n 0) 1 16), (16, qx (.getfield 72) 3 19 12 20 2), (19, qw (.bipush 7) 2 21 7)]), (38, [(21, qe (.aload_n 0) 1 22), (22, qx (.getfield 100) 3 25 12 29 0), (25, qe (.imul) 1 26), (26, qe (.iload_n 2) 1 27), (27, qe (.iadd) 1 28), (28, qe (.iaload) 1 29), (29, qe (.iload_n 1) 1 30), (30, qx (.if_icmp .ne 5) 3 33 35 0 0), (33, qw (.iconst 1) 1 34 1), (34, qe (.ireturn) 1 35), (35, qw (.iinc 2 1) 3 38 1), (38, qx (.goto (-36)) 3 41 2 0 0)]), (42, [(41, qw (.iconst 0) 1 42 0), (42, qe (.ireturn) 1 43)])]
noncomputable def mt_183 : pj_T := ((⟨"PegCoatsModel", "isWorn", "(I)Z"⟩, prog_14_method_35_code, 3, (some .boolean)), (12, true), mc_183)
set_option maxRecDepth 100000 in
/-- 184: PegCoatsModel.reading(I)V -/
noncomputable def mc_184 : pj_M := [(15, [(0, qw (.iconst 3) 1 1 3), (1, qe (.aload_n 0) 1 2), (2, qx (.getfield 100) 3 5 12 29 0), (5, qe (.imul) 1 6), (6, qe (.iload_n 1) 1 7), (7, qe (.iadd) 1 8), (8, qe (.istore_n 2) 1 9), (9, qe (.aload_n 0) 1 10), (10, qe (.aload_n 0) 1 11), (11, qx (.getfield 78) 3 14 12 22 2), (14, qe (.iload_n 2) 1 15), (15, qe (.iaload) 1 16)]), (37, [(16, qw (.iconst (-1)) 1 17 (-1)), (17, qx (.if_icmp .eq 7) 3 20 24 0 0), (20, qw (.iconst 1) 1 21 1), (21, qx (.goto 4) 3 24 25 0 0), (24, qw (.iconst 0) 1 25 0), (25, qx (.invokevirtual 333) 3 28 172 2 12), (28, qx (.ifCond .ne 4) 3 31 32 0 0), (31, qe (.return_) 1 32), (32, qe (.aload_n 0) 1 33), (33, qe (.iload_n 1) 1 34), (34, qx (.putfield 103) 3 37 12 30 0), (37, qe (.aload_n 0) 1 38)]), (57, [(38, qx (.getfield 78) 3 41 12 22 2), (41, qe (.iload_n 2) 1 42), (42, qe (.aload_n 0) 1 43), (43, qx (.getfield 97) 3 46 12 28 0), (46, qe (.iastore) 1 47), (47, qe (.aload_n 0) 1 48), (48, qe (.iload_n 1) 1 49), (49, qw (.iconst 2) 1 50 2), (50, qx (.if_icmp .ne 7) 3 53 57 0 0), (53, qw (.iconst 1) 1 54 1), (54, qx (.goto 4) 3 57 58 0 0), (57, qw (.iconst 0) 1 58 0)]), (71, [(58, qx (.invokevirtual 355) 3 61 185 2 12), (61, qe (.aload_n 0) 1 62), (62, qx (.getfield 81) 3 65 12 23 2), (65, qe (.iload_n 2) 1 66), (66, qe (.aload_n 0) 1 67), (67, qx (.getfield 97) 3 70 12 28 0), (70, qe (.iastore) 1 71), (71, qe (.return_) 1 72)])]
noncomputable def mt_184 : pj_T := ((⟨"PegCoatsModel", "reading", "(I)V"⟩, prog_14_method_37_code, 3, none), (12, false), mc_184)
set_option maxRecDepth 100000 in
/-- 185: PegCoatsModel.reads(Z)V -/
noncomputable def mc_185 : pj_M := [(19, [(0, qe (.aload_n 0) 1 1), (1, qx (.getfield 36) 3 4 12 8 0), (4, qx (.ifCond .le 4) 3 7 8 0 0), (7, qe (.return_) 1 8), (8, qe (.aload_n 0) 1 9), (9, qw (.iconst 0) 1 10 0), (10, qx (.putfield 122) 3 13 12 36 0), (13, qe (.aload_n 0) 1 14), (14, qw (.iconst 0) 1 15 0), (15, qx (.putfield 125) 3 18 12 37 0), (18, qe (.aload_n 0) 1 19), (19, qw (.iconst 0) 1 20 0)]), (41, [(20, qx (.putfield 131) 3 23 12 39 0), (23, qe (.aload_n 0) 1 24), (24, qw (.iconst 0) 1 25 0), (25, qx (.putfield 134) 3 28 12 40 3), (28, qe (.aload_n 0) 1 29), (29, qe (.iload_n 1) 1 30), (30, qx (.ifCond .eq 7) 3 33 37 0 0), (33, qw (.iconst 1) 1 34 1), (34, qx (.goto 4) 3 37 38 0 0), (37, qw (.iconst 0) 1 38 0), (38, qx (.invokevirtual 298) 3 41 186 2 12), (41, qw (.iconst 1) 1 42 1)]), (65, [(42, qe (.istore_n 2) 1 43), (43, qe (.iload_n 2) 1 44), (44, qx (.ifCond .eq 46) 3 47 90 0 0), (47, qe (.aload_n 0) 1 48), (48, qx (.getfield 134) 3 51 12 40 3), (51, qx (.ifCond .ne 14) 3 54 65 0 0), (54, qe (.aload_n 0) 1 55), (55, qe (.aload_n 0) 1 56), (56, qx (.invokevirtual 317) 3 59 187 1 12), (59, qx (.putfield 134) 3 62 12 40 3), (62, qx (.goto 8) 3 65 70 0 0), (65, qe (.aload_n 0) 1 66)]), (87, [(66, qx (.invokevirtual 320) 3 69 193 1 12), (69, qe (.istore_n 2) 1 70), (70, qe (.iload_n 2) 1 71), (71, qx (.ifCond .eq 14) 3 74 85 0 0), (74, qe (.aload_n 0) 1 75), (75, qx (.getfield 36) 3 78 12 8 0), (78, qx (.ifCond .ne 7) 3 81 85 0 0), (81, qw (.iconst 1) 1 82 1), (82, qx (.goto 4) 3 85 86 0 0), (85, qw (.iconst 0) 1 86 0), (86, qe (.istore_n 2) 1 87), (87, qx (.goto (-44)) 3 90 43 0 0)]), (90, [(90, qe (.return_) 1 91)])]
noncomputable def mt_185 : pj_T := ((⟨"PegCoatsModel", "reads", "(Z)V"⟩, prog_14_method_27_code, 3, none), (12, false), mc_185)
set_option maxRecDepth 100000 in
/-- 186: PegCoatsModel.pushes(I)V -/
noncomputable def mc_186 : pj_M := [(19, [(0, qe (.aload_n 0) 1 1), (1, qx (.getfield 106) 3 4 12 31 2), (4, qe (.aload_n 0) 1 5), (5, qx (.getfield 122) 3 8 12 36 0), (8, qe (.iload_n 1) 1 9), (9, qe (.iastore) 1 10), (10, qe (.aload_n 0) 1 11), (11, qx (.getfield 109) 3 14 12 32 2), (14, qe (.aload_n 0) 1 15), (15, qx (.getfield 122) 3 18 12 36 0), (18, qw (.iconst 0) 1 19 0), (19, qe (.iastore) 1 20)]), (39, [(20, qe (.aload_n 0) 1 21), (21, qx (.getfield 112) 3 24 12 33 2), (24, qe (.aload_n 0) 1 25), (25, qx (.getfield 122) 3 28 12 36 0), (28, qw (.iconst 1) 1 29 1), (29, qe (.bastore) 1 30), (30, qe (.aload_n 0) 1 31), (31, qx (.getfield 119) 3 34 12 35 2), (34, qe (.aload_n 0) 1 35), (35, qx (.getfield 122) 3 38 12 36 0), (38, qe (.aload_n 0) 1 39), (39, qx (.getfield 131) 3 42 12 39 0)]), (53, [(42, qe (.iastore) 1 43), (43, qe (.aload_n 0) 1 44), (44, qe (.dup) 1 45), (45, qx (.getfield 122) 3 48 12 36 0), (48, qw (.iconst 1) 1 49 1), (49, qe (.iadd) 1 50), (50, qx (.putfield 122) 3 53 12 36 0), (53, qe (.return_) 1 54)])]
noncomputable def mt_186 : pj_T := ((⟨"PegCoatsModel", "pushes", "(I)V"⟩, prog_14_method_22_code, 2, none), (12, false), mc_186)
set_option maxRecDepth 100000 in
/-- 187: PegCoatsModel.operand()Z -/
noncomputable def mc_187 : pj_M := [(19, [(0, qe (.aload_n 0) 1 1), (1, qx (.invokevirtual 235) 3 4 168 1 12), (4, qe (.aload_n 0) 1 5), (5, qx (.getfield 36) 3 8 12 8 0), (8, qx (.ifCond .le 5) 3 11 13 0 0), (11, qw (.iconst 1) 1 12 1), (12, qe (.ireturn) 1 13), (13, qe (.aload_n 0) 1 14), (14, qx (.getfield 122) 3 17 12 36 0), (17, qw (.iconst 1) 1 18 1), (18, qe (.isub) 1 19), (19, qe (.istore_n 1) 1 20)]), (41, [(20, qe (.aload_n 0) 1 21), (21, qx (.getfield 106) 3 24 12 31 2), (24, qe (.iload_n 1) 1 25), (25, qe (.iaload) 1 26), (26, qx (.invokestatic 301) 3 29 188 1 0), (29, qx (.ifCond .eq 16) 3 32 45 0 0), (32, qe (.aload_n 0) 1 33), (33, qx (.getfield 112) 3 36 12 33 2), (36, qe (.iload_n 1) 1 37), (37, qe (.baload) 1 38), (38, qx (.ifCond .eq 7) 3 41 45 0 0), (41, qw (.iconst 1) 1 42 1)]), (65, [(42, qx (.goto 4) 3 45 46 0 0), (45, qw (.iconst 0) 1 46 0), (46, qe (.istore_n 2) 1 47), (47, qe (.iload_n 2) 1 48), (48, qx (.ifCond .eq 62) 3 51 110 0 0), (51, qe (.aload_n 0) 1 52), (52, ql (.ldc2_w 280) 3 55 7237492), (55, qx (.invokevirtual 304) 3 58 170 2 12), (58, qx (.ifCond .eq 52) 3 61 110 0 0), (61, qe (.aload_n 0) 1 62), (62, qx (.getfield 125) 3 65 12 37 0), (65, qw (.bipush 7) 2 67 7)]), (88, [(67, qx (.if_icmp .ne 12) 3 70 79 0 0), (70, qe (.aload_n 0) 1 71), (71, qw (.iconst 5) 1 72 5), (72, qe (.aload_n 0) 1 73), (73, qx (.getfield 23) 3 76 12 4 0), (76, qx (.invokevirtual 224) 3 79 169 3 12), (79, qe (.aload_n 0) 1 80), (80, qx (.getfield 36) 3 83 12 8 0), (83, qx (.ifCond .le 5) 3 86 88 0 0), (86, qw (.iconst 1) 1 87 1), (87, qe (.ireturn) 1 88), (88, qe (.aload_n 0) 1 89)]), (109, [(89, qe (.dup) 1 90), (90, qx (.getfield 125) 3 93 12 37 0), (93, qw (.iconst 1) 1 94 1), (94, qe (.iadd) 1 95), (95, qx (.putfield 125) 3 98 12 37 0), (98, qe (.aload_n 0) 1 99), (99, qw (.bipush 43) 2 101 43), (101, qx (.invokevirtual 308) 3 104 189 2 12), (104, qe (.aload_n 0) 1 105), (105, qx (.invokevirtual 241) 3 108 164 1 12), (108, qw (.iconst 0) 1 109 0), (109, qe (.ireturn) 1 110)]), (130, [(110, qe (.aload_n 0) 1 111), (111, qx (.getfield 112) 3 114 12 33 2), (114, qe (.iload_n 1) 1 115), (115, qw (.iconst 0) 1 116 0), (116, qe (.bastore) 1 117), (117, qe (.iload_n 2) 1 118), (118, qx (.ifCond .eq 19) 3 121 137 0 0), (121, qe (.aload_n 0) 1 122), (122, qw (.bipush 91) 2 124 91), (124, qx (.invokevirtual 238) 3 127 190 2 12), (127, qx (.ifCond .eq 10) 3 130 137 0 0), (130, qe (.aload_n 0) 1 131)]), (152, [(131, qw (.iconst 5) 1 132 5), (132, qx (.invokevirtual 311) 3 135 191 2 12), (135, qw (.iconst 0) 1 136 0), (136, qe (.ireturn) 1 137), (137, qe (.iload_n 2) 1 138), (138, qx (.ifCond .eq 33) 3 141 171 0 0), (141, qe (.aload_n 0) 1 142), (142, ql (.ldc2_w 282) 3 145 6384748), (145, qx (.invokevirtual 304) 3 148 170 2 12), (148, qx (.ifCond .eq 23) 3 151 171 0 0), (151, qe (.aload_n 0) 1 152), (152, qw (.bipush 30) 2 154 30)]), (171, [(154, qw (.iconst 0) 1 155 0), (155, qx (.invokevirtual 295) 3 158 192 3 12), (158, qe (.aload_n 0) 1 159), (159, qx (.getfield 109) 3 162 12 32 2), (162, qe (.iload_n 1) 1 163), (163, qw (.iconst 2) 1 164 2), (164, qe (.iastore) 1 165), (165, qe (.aload_n 0) 1 166), (166, qx (.invokevirtual 241) 3 169 164 1 12), (169, qw (.iconst 1) 1 170 1), (170, qe (.ireturn) 1 171), (171, qe (.aload_n 0) 1 172)]), (194, [(172, qw (.bipush 40) 2 174 40), (174, qx (.invokevirtual 238) 3 177 190 2 12), (177, qx (.ifCond .eq 10) 3 180 187 0 0), (180, qe (.aload_n 0) 1 181), (181, qw (.iconst 2) 1 182 2), (182, qx (.invokevirtual 311) 3 185 191 2 12), (185, qw (.iconst 0) 1 186 0), (186, qe (.ireturn) 1 187), (187, qe (.aload_n 0) 1 188), (188, ql (.ldc2_w 284) 3 191 7170414), (191, qx (.invokevirtual 304) 3 194 170 2 12), (194, qx (.ifCond .ne 23) 3 197 217 0 0)]), (224, [(197, qe (.aload_n 0) 1 198), (198, ql (.ldc2_w 286) 3 201 7168376), (201, qx (.invokevirtual 304) 3 204 170 2 12), (204, qx (.ifCond .ne 13) 3 207 217 0 0), (207, qe (.aload_n 0) 1 208), (208, ql (.ldc2_w 274) 3 211 26982), (211, qx (.invokevirtual 304) 3 214 170 2 12), (214, qx (.ifCond .eq 99) 3 217 313 0 0), (217, qe (.aload_n 0) 1 218), (218, ql (.ldc2_w 284) 3 221 7170414), (221, qx (.invokevirtual 304) 3 224 170 2 12), (224, qx (.ifCond .eq 8) 3 227 232 0 0)]), (251, [(227, qw (.bipush 36) 2 229 36), (229, qx (.goto 20) 3 232 249 0 0), (232, qe (.aload_n 0) 1 233), (233, ql (.ldc2_w 286) 3 236 7168376), (236, qx (.invokevirtual 304) 3 239 170 2 12), (239, qx (.ifCond .eq 8) 3 242 247 0 0), (242, qw (.bipush 37) 2 244 37), (244, qx (.goto 5) 3 247 249 0 0), (247, qw (.bipush 44) 2 249 44), (249, qe (.istore_n 3) 1 250), (250, qe (.aload_n 0) 1 251), (251, qx (.invokevirtual 241) 3 254 164 1 12)]), (276, [(254, qe (.aload_n 0) 1 255), (255, qx (.invokevirtual 235) 3 258 168 1 12), (258, qe (.aload_n 0) 1 259), (259, qw (.bipush 40) 2 261 40), (261, qx (.invokevirtual 238) 3 264 190 2 12), (264, qx (.ifCond .ne 12) 3 267 276 0 0), (267, qe (.aload_n 0) 1 268), (268, qw (.iconst 1) 1 269 1), (269, qe (.aload_n 0) 1 270), (270, qx (.getfield 23) 3 273 12 4 0), (273, qx (.invokevirtual 224) 3 276 169 3 12), (276, qe (.aload_n 0) 1 277)]), (300, [(277, qe (.iload_n 3) 1 278), (278, qw (.bipush 44) 2 280 44), (280, qx (.if_icmp .ne 8) 3 283 288 0 0), (283, qw (.bipush 6) 2 285 6), (285, qx (.goto 4) 3 288 289 0 0), (288, qw (.iconst 3) 1 289 3), (289, qx (.invokevirtual 311) 3 292 191 2 12), (292, qe (.aload_n 0) 1 293), (293, qx (.getfield 36) 3 296 12 8 0), (296, qx (.ifCond .ne 15) 3 299 311 0 0), (299, qe (.aload_n 0) 1 300), (300, qx (.getfield 116) 3 303 12 34 2)]), (318, [(303, qe (.aload_n 0) 1 304), (304, qx (.getfield 122) 3 307 12 36 0), (307, qw (.iconst 1) 1 308 1), (308, qe (.isub) 1 309), (309, qe (.iload_n 3) 1 310), (310, qe (.iastore) 1 311), (311, qw (.iconst 0) 1 312 0), (312, qe (.ireturn) 1 313), (313, qe (.aload_n 0) 1 314), (314, qx (.getfield 20) 3 317 12 3 0), (317, qw (.iconst 2) 1 318 2), (318, qx (.if_icmp .ne 7) 3 321 325 0 0)]), (346, [(321, qw (.iconst 0) 1 322 0), (322, qx (.goto 119) 3 325 441 0 0), (325, qe (.aload_n 0) 1 326), (326, ql (.ldc2_w 246) 3 329 1936292453), (329, qx (.invokevirtual 304) 3 332 170 2 12), (332, qx (.ifCond .eq 7) 3 335 339 0 0), (335, qw (.iconst 1) 1 336 1), (336, qx (.goto 105) 3 339 441 0 0), (339, qe (.aload_n 0) 1 340), (340, ql (.ldc2_w 252) 3 343 6383461), (343, qx (.invokevirtual 304) 3 346 170 2 12), (346, qx (.ifCond .eq 7) 3 349 353 0 0)]), (374, [(349, qw (.iconst 2) 1 350 2), (350, qx (.goto 91) 3 353 441 0 0), (353, qe (.aload_n 0) 1 354), (354, ql (.ldc2_w 266) 3 357 2036687218), (357, qx (.invokevirtual 304) 3 360 170 2 12), (360, qx (.ifCond .eq 7) 3 363 367 0 0), (363, qw (.iconst 3) 1 364 3), (364, qx (.goto 77) 3 367 441 0 0), (367, qe (.aload_n 0) 1 368), (368, ql (.ldc2_w 244) 3 371 1668243828), (371, qx (.invokevirtual 304) 3 374 170 2 12), (374, qx (.ifCond .eq 7) 3 377 381 0 0)]), (402, [(377, qw (.iconst 4) 1 378 4), (378, qx (.goto 63) 3 381 441 0 0), (381, qe (.aload_n 0) 1 382), (382, ql (.ldc2_w 248) 3 385 7364985), (385, qx (.invokevirtual 304) 3 388 170 2 12), (388, qx (.ifCond .eq 7) 3 391 395 0 0), (391, qw (.iconst 5) 1 392 5), (392, qx (.goto 49) 3 395 441 0 0), (395, qe (.aload_n 0) 1 396), (396, ql (.ldc2_w 268) 3 399 119200079769191), (399, qx (.invokevirtual 304) 3 402 170 2 12), (402, qx (.ifCond .eq 8) 3 405 410 0 0)]), (432, [(405, qw (.bipush 6) 2 407 6), (407, qx (.goto 34) 3 410 441 0 0), (410, qe (.aload_n 0) 1 411), (411, ql (.ldc2_w 270) 3 414 483006772069), (414, qx (.invokevirtual 304) 3 417 170 2 12), (417, qx (.ifCond .eq 8) 3 420 425 0 0), (420, qw (.bipush 7) 2 422 7), (422, qx (.goto 19) 3 425 441 0 0), (425, qe (.aload_n 0) 1 426), (426, ql (.ldc2_w 272) 3 429 109330027537764), (429, qx (.invokevirtual 304) 3 432 170 2 12), (432, qx (.ifCond .eq 8) 3 435 440 0 0)]), (454, [(435, qw (.bipush 8) 2 437 8), (437, qx (.goto 4) 3 440 441 0 0), (440, qw (.iconst (-1)) 1 441 (-1)), (441, qe (.istore_n 3) 1 442), (442, qe (.iload_n 3) 1 443), (443, qw (.iconst 4) 1 444 4), (444, qx (.if_icmp .lt 23) 3 447 467 0 0), (447, qe (.aload_n 0) 1 448), (448, qx (.getfield 103) 3 451 12 30 0), (451, qe (.iload_n 3) 1 452), (452, qw (.bipush 7) 2 454 7), (454, qx (.if_icmp .lt 7) 3 457 461 0 0)]), (474, [(457, qw (.iconst 2) 1 458 2), (458, qx (.goto 4) 3 461 462 0 0), (461, qw (.iconst 0) 1 462 0), (462, qx (.if_icmp .eq 5) 3 465 467 0 0), (465, qw (.iconst (-1)) 1 466 (-1)), (466, qe (.istore_n 3) 1 467), (467, qe (.iload_n 3) 1 468), (468, qw (.iconst (-1)) 1 469 (-1)), (469, qx (.if_icmp .ne 12) 3 472 481 0 0), (472, qe (.aload_n 0) 1 473), (473, qw (.iconst 1) 1 474 1), (474, qe (.aload_n 0) 1 475)]), (496, [(475, qx (.getfield 23) 3 478 12 4 0), (478, qx (.invokevirtual 224) 3 481 169 3 12), (481, qe (.aload_n 0) 1 482), (482, qx (.getfield 36) 3 485 12 8 0), (485, qx (.ifCond .le 5) 3 488 490 0 0), (488, qw (.iconst 1) 1 489 1), (489, qe (.ireturn) 1 490), (490, qe (.aload_n 0) 1 491), (491, qe (.iload_n 3) 1 492), (492, qe (.aload_n 0) 1 493), (493, qx (.getfield 29) 3 496 12 6 0), (496, qx (.invokevirtual 295) 3 499 192 3 12)]), (504, [(499, qe (.aload_n 0) 1 500), (500, qx (.invokevirtual 241) 3 503 164 1 12), (503, qw (.iconst 1) 1 504 1), (504, qe (.ireturn) 1 505)])]
noncomputable def mt_187 : pj_T := ((⟨"PegCoatsModel", "operand", "()Z"⟩, prog_14_method_25_code, 4, (some .boolean)), (12, true), mc_187)
set_option maxRecDepth 100000 in
/-- 188: PegCoatsModel.isTest(I)Z -/
noncomputable def mc_188 : pj_M := [(20, [(0, qe (.iload_n 0) 1 1), (1, qw (.iconst 1) 1 2 1), (2, qx (.if_icmp .eq 14) 3 5 16 0 0), (5, qe (.iload_n 0) 1 6), (6, qw (.iconst 5) 1 7 5), (7, qx (.if_icmp .eq 9) 3 10 16 0 0), (10, qe (.iload_n 0) 1 11), (11, qw (.bipush 6) 2 13 6), (13, qx (.if_icmp .ne 7) 3 16 20 0 0), (16, qw (.iconst 1) 1 17 1), (17, qx (.goto 4) 3 20 21 0 0), (20, qw (.iconst 0) 1 21 0)]), (21, [(21, qe (.ireturn) 1 22)])]
noncomputable def mt_188 : pj_T := ((⟨"PegCoatsModel", "isTest", "(I)Z"⟩, prog_14_method_24_code, 1, (some .boolean)), (12, true), mc_188)
set_option maxRecDepth 100000 in
/-- 189: PegCoatsModel.holdsBack(I)V -/
noncomputable def mc_189 : pj_M := [(17, [(0, qe (.aload_n 0) 1 1), (1, qx (.getfield 128) 3 4 12 38 2), (4, qe (.aload_n 0) 1 5), (5, qx (.getfield 131) 3 8 12 39 0), (8, qe (.iload_n 1) 1 9), (9, qe (.iastore) 1 10), (10, qe (.aload_n 0) 1 11), (11, qe (.dup) 1 12), (12, qx (.getfield 131) 3 15 12 39 0), (15, qw (.iconst 1) 1 16 1), (16, qe (.iadd) 1 17), (17, qx (.putfield 131) 3 20 12 39 0)]), (20, [(20, qe (.return_) 1 21)])]
noncomputable def mt_189 : pj_T := ((⟨"PegCoatsModel", "holdsBack", "(I)V"⟩, prog_14_method_21_code, 2, none), (12, false), mc_189)
set_option maxRecDepth 100000 in
/-- 190: PegCoatsModel.isSign(I)Z -/
noncomputable def mc_190 : pj_M := [(21, [(0, qe (.aload_n 0) 1 1), (1, qx (.getfield 20) 3 4 12 3 0), (4, qw (.iconst 3) 1 5 3), (5, qx (.if_icmp .ne 15) 3 8 20 0 0), (8, qe (.aload_n 0) 1 9), (9, qx (.getfield 29) 3 12 12 6 0), (12, qe (.iload_n 1) 1 13), (13, qx (.if_icmp .ne 7) 3 16 20 0 0), (16, qw (.iconst 1) 1 17 1), (17, qx (.goto 4) 3 20 21 0 0), (20, qw (.iconst 0) 1 21 0), (21, qe (.ireturn) 1 22)])]
noncomputable def mt_190 : pj_T := ((⟨"PegCoatsModel", "isSign", "(I)Z"⟩, prog_14_method_11_code, 2, (some .boolean)), (12, true), mc_190)
set_option maxRecDepth 100000 in
/-- 191: PegCoatsModel.opens(I)V -/
noncomputable def mc_191 : pj_M := [(22, [(0, qe (.aload_n 0) 1 1), (1, qx (.getfield 125) 3 4 12 37 0), (4, qw (.bipush 7) 2 6 7), (6, qx (.if_icmp .ne 12) 3 9 18 0 0), (9, qe (.aload_n 0) 1 10), (10, qw (.iconst 5) 1 11 5), (11, qe (.aload_n 0) 1 12), (12, qx (.getfield 23) 3 15 12 4 0), (15, qx (.invokevirtual 224) 3 18 169 3 12), (18, qe (.aload_n 0) 1 19), (19, qx (.getfield 36) 3 22 12 8 0), (22, qx (.ifCond .le 4) 3 25 26 0 0)]), (42, [(25, qe (.return_) 1 26), (26, qe (.aload_n 0) 1 27), (27, qe (.dup) 1 28), (28, qx (.getfield 125) 3 31 12 37 0), (31, qw (.iconst 1) 1 32 1), (32, qe (.iadd) 1 33), (33, qx (.putfield 125) 3 36 12 37 0), (36, qe (.aload_n 0) 1 37), (37, qx (.invokevirtual 241) 3 40 164 1 12), (40, qe (.aload_n 0) 1 41), (41, qe (.iload_n 1) 1 42), (42, qx (.invokevirtual 298) 3 45 186 2 12)]), (45, [(45, qe (.return_) 1 46)])]
noncomputable def mt_191 : pj_T := ((⟨"PegCoatsModel", "opens", "(I)V"⟩, prog_14_method_23_code, 2, none), (12, false), mc_191)
set_option maxRecDepth 100000 in
/-- 192: PegCoatsModel.add(II)V -/
noncomputable def mc_192 : pj_M := [(19, [(0, qe (.aload_n 0) 1 1), (1, qx (.getfield 84) 3 4 12 24 2), (4, qw (.sipush 1600) 3 7 1600), (7, qe (.aload_n 0) 1 8), (8, qx (.getfield 100) 3 11 12 29 0), (11, qe (.imul) 1 12), (12, qe (.aload_n 0) 1 13), (13, qx (.getfield 97) 3 16 12 28 0), (16, qe (.iadd) 1 17), (17, qe (.iload_n 1) 1 18), (18, qe (.iastore) 1 19), (19, qe (.aload_n 0) 1 20)]), (39, [(20, qx (.getfield 87) 3 23 12 25 2), (23, qw (.sipush 1600) 3 26 1600), (26, qe (.aload_n 0) 1 27), (27, qx (.getfield 100) 3 30 12 29 0), (30, qe (.imul) 1 31), (31, qe (.aload_n 0) 1 32), (32, qx (.getfield 97) 3 35 12 28 0), (35, qe (.iadd) 1 36), (36, qe (.iload_n 2) 1 37), (37, qe (.iastore) 1 38), (38, qe (.aload_n 0) 1 39), (39, qe (.dup) 1 40)]), (48, [(40, qx (.getfield 97) 3 43 12 28 0), (43, qw (.iconst 1) 1 44 1), (44, qe (.iadd) 1 45), (45, qx (.putfield 97) 3 48 12 28 0), (48, qe (.return_) 1 49)])]
noncomputable def mt_192 : pj_T := ((⟨"PegCoatsModel", "add", "(II)V"⟩, prog_14_method_18_code, 3, none), (12, false), mc_192)
set_option maxRecDepth 100000 in
/-- 193: PegCoatsModel.goesOn()Z -/
noncomputable def mc_193 : pj_M := [(19, [(0, qe (.aload_n 0) 1 1), (1, qx (.invokevirtual 235) 3 4 168 1 12), (4, qe (.aload_n 0) 1 5), (5, qx (.getfield 36) 3 8 12 8 0), (8, qx (.ifCond .le 5) 3 11 13 0 0), (11, qw (.iconst 0) 1 12 0), (12, qe (.ireturn) 1 13), (13, qe (.aload_n 0) 1 14), (14, qx (.getfield 122) 3 17 12 36 0), (17, qw (.iconst 1) 1 18 1), (18, qe (.isub) 1 19), (19, qe (.istore_n 1) 1 20)]), (37, [(20, qe (.aload_n 0) 1 21), (21, qx (.getfield 106) 3 24 12 31 2), (24, qe (.iload_n 1) 1 25), (25, qe (.iaload) 1 26), (26, qe (.istore_n 2) 1 27), (27, qe (.iload_n 2) 1 28), (28, qx (.invokestatic 301) 3 31 188 1 0), (31, qe (.istore_n 3) 1 32), (32, qe (.aload_n 0) 1 33), (33, qx (.getfield 109) 3 36 12 32 2), (36, qe (.iload_n 1) 1 37), (37, qe (.iaload) 1 38)]), (61, [(38, qw (.iconst 2) 1 39 2), (39, qx (.if_icmp .ge 149) 3 42 188 0 0), (42, qe (.aload_n 0) 1 43), (43, qw (.bipush 43) 2 45 43), (45, qx (.invokevirtual 238) 3 48 190 2 12), (48, qx (.ifCond .ne 39) 3 51 87 0 0), (51, qe (.aload_n 0) 1 52), (52, qw (.bipush 45) 2 54 45), (54, qx (.invokevirtual 238) 3 57 190 2 12), (57, qx (.ifCond .ne 30) 3 60 87 0 0), (60, qe (.aload_n 0) 1 61), (61, qw (.bipush 42) 2 63 42)]), (88, [(63, qx (.invokevirtual 238) 3 66 190 2 12), (66, qx (.ifCond .ne 21) 3 69 87 0 0), (69, qe (.aload_n 0) 1 70), (70, qw (.bipush 47) 2 72 47), (72, qx (.invokevirtual 238) 3 75 190 2 12), (75, qx (.ifCond .ne 12) 3 78 87 0 0), (78, qe (.aload_n 0) 1 79), (79, qw (.bipush 37) 2 81 37), (81, qx (.invokevirtual 238) 3 84 190 2 12), (84, qx (.ifCond .eq 104) 3 87 188 0 0), (87, qe (.aload_n 0) 1 88), (88, qe (.aload_n 0) 1 89)]), (115, [(89, qw (.bipush 43) 2 91 43), (91, qx (.invokevirtual 238) 3 94 190 2 12), (94, qx (.ifCond .ne 12) 3 97 106 0 0), (97, qe (.aload_n 0) 1 98), (98, qw (.bipush 45) 2 100 45), (100, qx (.invokevirtual 238) 3 103 190 2 12), (103, qx (.ifCond .eq 7) 3 106 110 0 0), (106, qw (.iconst 5) 1 107 5), (107, qx (.goto 5) 3 110 112 0 0), (110, qw (.bipush 6) 2 112 6), (112, qx (.invokevirtual 314) 3 115 194 2 12), (115, qe (.aload_n 0) 1 116)]), (141, [(116, qe (.aload_n 0) 1 117), (117, qw (.bipush 43) 2 119 43), (119, qx (.invokevirtual 238) 3 122 190 2 12), (122, qx (.ifCond .eq 8) 3 125 130 0 0), (125, qw (.bipush 31) 2 127 31), (127, qx (.goto 47) 3 130 174 0 0), (130, qe (.aload_n 0) 1 131), (131, qw (.bipush 45) 2 133 45), (133, qx (.invokevirtual 238) 3 136 190 2 12), (136, qx (.ifCond .eq 8) 3 139 144 0 0), (139, qw (.bipush 32) 2 141 32), (141, qx (.goto 33) 3 144 174 0 0)]), (169, [(144, qe (.aload_n 0) 1 145), (145, qw (.bipush 42) 2 147 42), (147, qx (.invokevirtual 238) 3 150 190 2 12), (150, qx (.ifCond .eq 8) 3 153 158 0 0), (153, qw (.bipush 33) 2 155 33), (155, qx (.goto 19) 3 158 174 0 0), (158, qe (.aload_n 0) 1 159), (159, qw (.bipush 47) 2 161 47), (161, qx (.invokevirtual 238) 3 164 190 2 12), (164, qx (.ifCond .eq 8) 3 167 172 0 0), (167, qw (.bipush 34) 2 169 34), (169, qx (.goto 5) 3 172 174 0 0)]), (192, [(172, qw (.bipush 35) 2 174 35), (174, qx (.invokevirtual 308) 3 177 189 2 12), (177, qe (.aload_n 0) 1 178), (178, qx (.invokevirtual 241) 3 181 164 1 12), (181, qe (.aload_n 0) 1 182), (182, qw (.iconst 0) 1 183 0), (183, qx (.putfield 134) 3 186 12 40 3), (186, qw (.iconst 1) 1 187 1), (187, qe (.ireturn) 1 188), (188, qe (.iload_n 3) 1 189), (189, qx (.ifCond .eq 96) 3 192 285 0 0), (192, qe (.aload_n 0) 1 193)]), (216, [(193, qx (.getfield 109) 3 196 12 32 2), (196, qe (.iload_n 1) 1 197), (197, qe (.iaload) 1 198), (198, qx (.ifCond .ne 87) 3 201 285 0 0), (201, qe (.aload_n 0) 1 202), (202, qw (.bipush 60) 2 204 60), (204, qx (.invokevirtual 238) 3 207 190 2 12), (207, qx (.ifCond .ne 21) 3 210 228 0 0), (210, qe (.aload_n 0) 1 211), (211, qw (.bipush 62) 2 213 62), (213, qx (.invokevirtual 238) 3 216 190 2 12), (216, qx (.ifCond .ne 12) 3 219 228 0 0)]), (240, [(219, qe (.aload_n 0) 1 220), (220, qw (.bipush 61) 2 222 61), (222, qx (.invokevirtual 238) 3 225 190 2 12), (225, qx (.ifCond .eq 60) 3 228 285 0 0), (228, qe (.aload_n 0) 1 229), (229, qw (.iconst 5) 1 230 5), (230, qx (.invokevirtual 314) 3 233 194 2 12), (233, qe (.aload_n 0) 1 234), (234, qe (.aload_n 0) 1 235), (235, qw (.bipush 60) 2 237 60), (237, qx (.invokevirtual 238) 3 240 190 2 12), (240, qx (.ifCond .eq 8) 3 243 248 0 0)]), (268, [(243, qw (.bipush 38) 2 245 38), (245, qx (.goto 19) 3 248 264 0 0), (248, qe (.aload_n 0) 1 249), (249, qw (.bipush 62) 2 251 62), (251, qx (.invokevirtual 238) 3 254 190 2 12), (254, qx (.ifCond .eq 8) 3 257 262 0 0), (257, qw (.bipush 39) 2 259 39), (259, qx (.goto 5) 3 262 264 0 0), (262, qw (.bipush 40) 2 264 40), (264, qx (.invokevirtual 308) 3 267 189 2 12), (267, qe (.aload_n 0) 1 268), (268, qx (.getfield 109) 3 271 12 32 2)]), (286, [(271, qe (.iload_n 1) 1 272), (272, qw (.iconst 1) 1 273 1), (273, qe (.iastore) 1 274), (274, qe (.aload_n 0) 1 275), (275, qx (.invokevirtual 241) 3 278 164 1 12), (278, qe (.aload_n 0) 1 279), (279, qw (.iconst 0) 1 280 0), (280, qx (.putfield 134) 3 283 12 40 3), (283, qw (.iconst 1) 1 284 1), (284, qe (.ireturn) 1 285), (285, qe (.iload_n 3) 1 286), (286, qx (.ifCond .eq 114) 3 289 400 0 0)]), (314, [(289, qe (.aload_n 0) 1 290), (290, ql (.ldc2_w 278) 3 293 6385252), (293, qx (.invokevirtual 304) 3 296 170 2 12), (296, qx (.ifCond .ne 13) 3 299 309 0 0), (299, qe (.aload_n 0) 1 300), (300, ql (.ldc2_w 276) 3 303 28530), (303, qx (.invokevirtual 304) 3 306 170 2 12), (306, qx (.ifCond .eq 94) 3 309 400 0 0), (309, qe (.aload_n 0) 1 310), (310, qx (.getfield 109) 3 313 12 32 2), (313, qe (.iload_n 1) 1 314), (314, qe (.iaload) 1 315)]), (336, [(315, qx (.ifCond .ne 12) 3 318 327 0 0), (318, qe (.aload_n 0) 1 319), (319, qw (.iconst 1) 1 320 1), (320, qe (.aload_n 0) 1 321), (321, qx (.getfield 23) 3 324 12 4 0), (324, qx (.invokevirtual 224) 3 327 169 3 12), (327, qe (.aload_n 0) 1 328), (328, qx (.getfield 36) 3 331 12 8 0), (331, qx (.ifCond .le 5) 3 334 336 0 0), (334, qw (.iconst 0) 1 335 0), (335, qe (.ireturn) 1 336), (336, qe (.aload_n 0) 1 337)]), (360, [(337, ql (.ldc2_w 278) 3 340 6385252), (340, qx (.invokevirtual 304) 3 343 170 2 12), (343, qe (.istore 4) 2 345), (345, qe (.aload_n 0) 1 346), (346, qe (.iload 4) 2 348), (348, qx (.ifCond .eq 7) 3 351 355 0 0), (351, qw (.iconst 2) 1 352 2), (352, qx (.goto 4) 3 355 356 0 0), (355, qw (.iconst 1) 1 356 1), (356, qx (.invokevirtual 314) 3 359 194 2 12), (359, qe (.aload_n 0) 1 360), (360, qe (.iload 4) 2 362)]), (383, [(362, qx (.ifCond .eq 8) 3 365 370 0 0), (365, qw (.bipush 41) 2 367 41), (367, qx (.goto 5) 3 370 372 0 0), (370, qw (.bipush 42) 2 372 42), (372, qx (.invokevirtual 308) 3 375 189 2 12), (375, qe (.aload_n 0) 1 376), (376, qx (.getfield 109) 3 379 12 32 2), (379, qe (.iload_n 1) 1 380), (380, qw (.iconst 0) 1 381 0), (381, qe (.iastore) 1 382), (382, qe (.aload_n 0) 1 383), (383, qx (.getfield 112) 3 386 12 33 2)]), (401, [(386, qe (.iload_n 1) 1 387), (387, qw (.iconst 1) 1 388 1), (388, qe (.bastore) 1 389), (389, qe (.aload_n 0) 1 390), (390, qx (.invokevirtual 241) 3 393 164 1 12), (393, qe (.aload_n 0) 1 394), (394, qw (.iconst 0) 1 395 0), (395, qx (.putfield 134) 3 398 12 40 3), (398, qw (.iconst 1) 1 399 1), (399, qe (.ireturn) 1 400), (400, qe (.iload_n 3) 1 401), (401, qx (.ifCond .eq 21) 3 404 422 0 0)]), (423, [(404, qe (.aload_n 0) 1 405), (405, qx (.getfield 109) 3 408 12 32 2), (408, qe (.iload_n 1) 1 409), (409, qe (.iaload) 1 410), (410, qx (.ifCond .ne 12) 3 413 422 0 0), (413, qe (.aload_n 0) 1 414), (414, qw (.iconst 1) 1 415 1), (415, qe (.aload_n 0) 1 416), (416, qx (.getfield 23) 3 419 12 4 0), (419, qx (.invokevirtual 224) 3 422 169 3 12), (422, qe (.iload_n 2) 1 423), (423, qw (.iconst 2) 1 424 2)]), (443, [(424, qx (.if_icmp .ge 17) 3 427 441 0 0), (427, qe (.aload_n 0) 1 428), (428, qx (.getfield 36) 3 431 12 8 0), (431, qx (.ifCond .ne 8) 3 434 439 0 0), (434, qe (.aload_n 0) 1 435), (435, qw (.iconst 1) 1 436 1), (436, qx (.invokevirtual 314) 3 439 194 2 12), (439, qw (.iconst 0) 1 440 0), (440, qe (.ireturn) 1 441), (441, qe (.iload_n 2) 1 442), (442, qw (.iconst 3) 1 443 3), (443, qx (.if_icmp .eq 9) 3 446 452 0 0)]), (467, [(446, qe (.iload_n 2) 1 447), (447, qw (.bipush 6) 2 449 6), (449, qx (.if_icmp .ne 69) 3 452 518 0 0), (452, qe (.aload_n 0) 1 453), (453, qw (.bipush 44) 2 455 44), (455, qx (.invokevirtual 238) 3 458 190 2 12), (458, qx (.ifCond .ne 12) 3 461 470 0 0), (461, qe (.aload_n 0) 1 462), (462, qw (.iconst 1) 1 463 1), (463, qe (.aload_n 0) 1 464), (464, qx (.getfield 23) 3 467 12 4 0), (467, qx (.invokevirtual 224) 3 470 169 3 12)]), (489, [(470, qe (.aload_n 0) 1 471), (471, qx (.getfield 36) 3 474 12 8 0), (474, qx (.ifCond .le 5) 3 477 479 0 0), (477, qw (.iconst 0) 1 478 0), (478, qe (.ireturn) 1 479), (479, qe (.aload_n 0) 1 480), (480, qw (.iconst 1) 1 481 1), (481, qx (.invokevirtual 314) 3 484 194 2 12), (484, qe (.aload_n 0) 1 485), (485, qx (.getfield 106) 3 488 12 31 2), (488, qe (.iload_n 1) 1 489), (489, qe (.iload_n 2) 1 490)]), (507, [(490, qw (.iconst 3) 1 491 3), (491, qx (.if_icmp .ne 7) 3 494 498 0 0), (494, qw (.iconst 4) 1 495 4), (495, qx (.goto 4) 3 498 499 0 0), (498, qw (.iconst 3) 1 499 3), (499, qe (.iastore) 1 500), (500, qe (.aload_n 0) 1 501), (501, qx (.getfield 109) 3 504 12 32 2), (504, qe (.iload_n 1) 1 505), (505, qw (.iconst 0) 1 506 0), (506, qe (.iastore) 1 507), (507, qe (.aload_n 0) 1 508)]), (526, [(508, qx (.invokevirtual 241) 3 511 164 1 12), (511, qe (.aload_n 0) 1 512), (512, qw (.iconst 0) 1 513 0), (513, qx (.putfield 134) 3 516 12 40 3), (516, qw (.iconst 1) 1 517 1), (517, qe (.ireturn) 1 518), (518, qe (.aload_n 0) 1 519), (519, qe (.iload_n 2) 1 520), (520, qw (.iconst 5) 1 521 5), (521, qx (.if_icmp .ne 8) 3 524 529 0 0), (524, qw (.bipush 93) 2 526 93), (526, qx (.goto 5) 3 529 531 0 0)]), (553, [(529, qw (.bipush 41) 2 531 41), (531, qx (.invokevirtual 238) 3 534 190 2 12), (534, qx (.ifCond .ne 12) 3 537 546 0 0), (537, qe (.aload_n 0) 1 538), (538, qw (.iconst 1) 1 539 1), (539, qe (.aload_n 0) 1 540), (540, qx (.getfield 23) 3 543 12 4 0), (543, qx (.invokevirtual 224) 3 546 169 3 12), (546, qe (.aload_n 0) 1 547), (547, qx (.getfield 36) 3 550 12 8 0), (550, qx (.ifCond .le 5) 3 553 555 0 0), (553, qw (.iconst 0) 1 554 0)]), (571, [(554, qe (.ireturn) 1 555), (555, qe (.aload_n 0) 1 556), (556, qw (.iconst 1) 1 557 1), (557, qx (.invokevirtual 314) 3 560 194 2 12), (560, qe (.aload_n 0) 1 561), (561, qe (.dup) 1 562), (562, qx (.getfield 122) 3 565 12 36 0), (565, qw (.iconst 1) 1 566 1), (566, qe (.isub) 1 567), (567, qx (.putfield 122) 3 570 12 36 0), (570, qe (.aload_n 0) 1 571), (571, qe (.dup) 1 572)]), (591, [(572, qx (.getfield 125) 3 575 12 37 0), (575, qw (.iconst 1) 1 576 1), (576, qe (.isub) 1 577), (577, qx (.putfield 125) 3 580 12 37 0), (580, qe (.iload_n 2) 1 581), (581, qw (.iconst 4) 1 582 4), (582, qx (.if_icmp .ne 14) 3 585 596 0 0), (585, qe (.aload_n 0) 1 586), (586, qe (.aload_n 0) 1 587), (587, qx (.getfield 116) 3 590 12 34 2), (590, qe (.iload_n 1) 1 591), (591, qe (.iaload) 1 592)]), (611, [(592, qw (.iconst 0) 1 593 0), (593, qx (.invokevirtual 295) 3 596 192 3 12), (596, qe (.iload_n 2) 1 597), (597, qw (.iconst 5) 1 598 5), (598, qx (.if_icmp .ne 15) 3 601 613 0 0), (601, qe (.aload_n 0) 1 602), (602, qx (.getfield 109) 3 605 12 32 2), (605, qe (.aload_n 0) 1 606), (606, qx (.getfield 122) 3 609 12 36 0), (609, qw (.iconst 1) 1 610 1), (610, qe (.isub) 1 611), (611, qw (.iconst 2) 1 612 2)]), (618, [(612, qe (.iastore) 1 613), (613, qe (.aload_n 0) 1 614), (614, qx (.invokevirtual 241) 3 617 164 1 12), (617, qw (.iconst 1) 1 618 1), (618, qe (.ireturn) 1 619)])]
noncomputable def mt_193 : pj_T := ((⟨"PegCoatsModel", "goesOn", "()Z"⟩, prog_14_method_26_code, 5, (some .boolean)), (12, true), mc_193)
end
section
set_option maxRecDepth 100000 in
/-- 194: PegCoatsModel.joins(I)V -/
noncomputable def mc_194 : pj_M := [(19, [(0, qe (.aload_n 0) 1 1), (1, qx (.getfield 131) 3 4 12 39 0), (4, qe (.aload_n 0) 1 5), (5, qx (.getfield 119) 3 8 12 35 2), (8, qe (.aload_n 0) 1 9), (9, qx (.getfield 122) 3 12 12 36 0), (12, qw (.iconst 1) 1 13 1), (13, qe (.isub) 1 14), (14, qe (.iaload) 1 15), (15, qx (.if_icmp .le 72) 3 18 87 0 0), (18, qe (.aload_n 0) 1 19), (19, qx (.getfield 128) 3 22 12 38 2)]), (41, [(22, qe (.aload_n 0) 1 23), (23, qx (.getfield 131) 3 26 12 39 0), (26, qw (.iconst 1) 1 27 1), (27, qe (.isub) 1 28), (28, qe (.iaload) 1 29), (29, qx (.invokestatic 292) 3 32 195 1 0), (32, qe (.iload_n 1) 1 33), (33, qx (.if_icmp .lt 54) 3 36 87 0 0), (36, qe (.aload_n 0) 1 37), (37, qe (.dup) 1 38), (38, qx (.getfield 131) 3 41 12 39 0), (41, qw (.iconst 1) 1 42 1)]), (61, [(42, qe (.isub) 1 43), (43, qx (.putfield 131) 3 46 12 39 0), (46, qe (.aload_n 0) 1 47), (47, qe (.aload_n 0) 1 48), (48, qx (.getfield 128) 3 51 12 38 2), (51, qe (.aload_n 0) 1 52), (52, qx (.getfield 131) 3 55 12 39 0), (55, qe (.iaload) 1 56), (56, qw (.iconst 0) 1 57 0), (57, qx (.invokevirtual 295) 3 60 192 3 12), (60, qe (.aload_n 0) 1 61), (61, qx (.getfield 128) 3 64 12 38 2)]), (84, [(64, qe (.aload_n 0) 1 65), (65, qx (.getfield 131) 3 68 12 39 0), (68, qe (.iaload) 1 69), (69, qw (.bipush 43) 2 71 43), (71, qe (.if_icmp .ne (-71)) 3 74), (74, qe (.aload_n 0) 1 75), (75, qe (.dup) 1 76), (76, qx (.getfield 125) 3 79 12 37 0), (79, qw (.iconst 1) 1 80 1), (80, qe (.isub) 1 81), (81, qx (.putfield 125) 3 84 12 37 0), (84, qe (.goto (-84)) 3 87)]), (87, [(87, qe (.return_) 1 88)])]
noncomputable def mt_194 : pj_T := ((⟨"PegCoatsModel", "joins", "(I)V"⟩, prog_14_method_20_code, 2, none), (12, false), mc_194)
set_option maxRecDepth 100000 in
/-- 195: PegCoatsModel.rank(I)I -/
noncomputable def mc_195 : pj_M := [(21, [(0, qe (.iload_n 0) 1 1), (1, qw (.bipush 42) 2 3 42), (3, qx (.if_icmp .ne 7) 3 6 10 0 0), (6, qw (.iconst 1) 1 7 1), (7, qx (.goto 63) 3 10 70 0 0), (10, qe (.iload_n 0) 1 11), (11, qw (.bipush 41) 2 13 41), (13, qx (.if_icmp .ne 7) 3 16 20 0 0), (16, qw (.iconst 2) 1 17 2), (17, qx (.goto 53) 3 20 70 0 0), (20, qe (.iload_n 0) 1 21), (21, qw (.bipush 43) 2 23 43)]), (45, [(23, qx (.if_icmp .ne 7) 3 26 30 0 0), (26, qw (.iconst 3) 1 27 3), (27, qx (.goto 43) 3 30 70 0 0), (30, qe (.iload_n 0) 1 31), (31, qw (.bipush 38) 2 33 38), (33, qx (.if_icmp .eq 15) 3 36 48 0 0), (36, qe (.iload_n 0) 1 37), (37, qw (.bipush 39) 2 39 39), (39, qx (.if_icmp .eq 9) 3 42 48 0 0), (42, qe (.iload_n 0) 1 43), (43, qw (.bipush 40) 2 45 40), (45, qx (.if_icmp .ne 7) 3 48 52 0 0)]), (70, [(48, qw (.iconst 4) 1 49 4), (49, qx (.goto 21) 3 52 70 0 0), (52, qe (.iload_n 0) 1 53), (53, qw (.bipush 31) 2 55 31), (55, qx (.if_icmp .eq 9) 3 58 64 0 0), (58, qe (.iload_n 0) 1 59), (59, qw (.bipush 32) 2 61 32), (61, qx (.if_icmp .ne 7) 3 64 68 0 0), (64, qw (.iconst 5) 1 65 5), (65, qx (.goto 5) 3 68 70 0 0), (68, qw (.bipush 6) 2 70 6), (70, qe (.ireturn) 1 71)])]
noncomputable def mt_195 : pj_T := ((⟨"PegCoatsModel", "rank", "(I)I"⟩, prog_14_method_19_code, 1, (some .int)), (12, false), mc_195)
set_option maxRecDepth 100000 in
/-- 196: PegCoatsModel.firing()V -/
noncomputable def mc_196 : pj_M := [(18, [(0, qe (.aload_n 0) 1 1), (1, qw (.iconst 0) 1 2 0), (2, qx (.invokevirtual 333) 3 5 172 2 12), (5, qx (.ifCond .ne 4) 3 8 9 0 0), (8, qe (.return_) 1 9), (9, qe (.aload_n 0) 1 10), (10, qw (.iconst 0) 1 11 0), (11, qw (.bipush 100) 2 13 100), (13, qx (.invokevirtual 345) 3 16 178 3 12), (16, qe (.istore_n 1) 1 17), (17, qe (.aload_n 0) 1 18), (18, qx (.getfield 36) 3 21 12 8 0)]), (34, [(21, qx (.ifCond .ne 13) 3 24 34 0 0), (24, qe (.aload_n 0) 1 25), (25, qx (.getfield 75) 3 28 12 21 2), (28, qe (.aload_n 0) 1 29), (29, qx (.getfield 100) 3 32 12 29 0), (32, qe (.iload_n 1) 1 33), (33, qe (.iastore) 1 34), (34, qe (.return_) 1 35)])]
noncomputable def mt_196 : pj_T := ((⟨"PegCoatsModel", "firing", "()V"⟩, prog_14_method_38_code, 2, none), (12, false), mc_196)
set_option maxRecDepth 100000 in
/-- 197: PegCoatsModel.finishes(I)V -/
noncomputable def mc_197 : pj_M := [(19, [(0, qe (.aload_n 0) 1 1), (1, qx (.invokevirtual 235) 3 4 168 1 12), (4, qe (.aload_n 0) 1 5), (5, qx (.getfield 36) 3 8 12 8 0), (8, qx (.ifCond .le 4) 3 11 12 0 0), (11, qe (.return_) 1 12), (12, qe (.aload_n 0) 1 13), (13, qx (.getfield 26) 3 16 12 5 0), (16, qe (.istore_n 2) 1 17), (17, qe (.iload_n 2) 1 18), (18, qe (.aload_n 0) 1 19), (19, qx (.getfield 17) 3 22 12 2 0)]), (42, [(22, qx (.if_icmp .ge 31) 3 25 53 0 0), (25, qe (.aload_n 0) 1 26), (26, qx (.getfield 7) 3 29 12 0 2), (29, qe (.iload_n 2) 1 30), (30, qe (.iaload) 1 31), (31, qw (.bipush 32) 2 33 32), (33, qx (.if_icmp .eq 14) 3 36 47 0 0), (36, qe (.aload_n 0) 1 37), (37, qx (.getfield 7) 3 40 12 0 2), (40, qe (.iload_n 2) 1 41), (41, qe (.iaload) 1 42), (42, qw (.bipush 10) 2 44 10)]), (69, [(44, qx (.if_icmp .ne 9) 3 47 53 0 0), (47, qw (.iinc 2 1) 3 50 1), (50, qx (.goto (-33)) 3 53 17 0 0), (53, qe (.aload_n 0) 1 54), (54, qw (.bipush 59) 2 56 59), (56, qx (.invokevirtual 238) 3 59 190 2 12), (59, qx (.ifCond .eq 24) 3 62 83 0 0), (62, qe (.iload_n 1) 1 63), (63, qw (.bipush 80) 2 65 80), (65, qx (.if_icmp .ne 18) 3 68 83 0 0), (68, qe (.iload_n 2) 1 69), (69, qe (.aload_n 0) 1 70)]), (89, [(70, qx (.getfield 17) 3 73 12 2 0), (73, qx (.if_icmp .ge 10) 3 76 83 0 0), (76, qe (.aload_n 0) 1 77), (77, qw (.bipush 6) 2 79 6), (79, qe (.iload_n 2) 1 80), (80, qx (.invokevirtual 224) 3 83 169 3 12), (83, qe (.aload_n 0) 1 84), (84, qw (.bipush 59) 2 86 59), (86, qx (.invokevirtual 374) 3 89 198 2 12), (89, qe (.return_) 1 90)])]
noncomputable def mt_197 : pj_T := ((⟨"PegCoatsModel", "finishes", "(I)V"⟩, prog_14_method_40_code, 3, none), (12, false), mc_197)
set_option maxRecDepth 100000 in
/-- 198: PegCoatsModel.must(I)V -/
noncomputable def mc_198 : pj_M := [(21, [(0, qe (.aload_n 0) 1 1), (1, qx (.invokevirtual 235) 3 4 168 1 12), (4, qe (.aload_n 0) 1 5), (5, qe (.iload_n 1) 1 6), (6, qx (.invokevirtual 238) 3 9 190 2 12), (9, qx (.ifCond .ne 12) 3 12 21 0 0), (12, qe (.aload_n 0) 1 13), (13, qw (.iconst 1) 1 14 1), (14, qe (.aload_n 0) 1 15), (15, qx (.getfield 23) 3 18 12 4 0), (18, qx (.invokevirtual 224) 3 21 169 3 12), (21, qe (.aload_n 0) 1 22)]), (32, [(22, qx (.getfield 36) 3 25 12 8 0), (25, qx (.ifCond .ne 7) 3 28 32 0 0), (28, qe (.aload_n 0) 1 29), (29, qx (.invokevirtual 241) 3 32 164 1 12), (32, qe (.return_) 1 33)])]
noncomputable def mt_198 : pj_T := ((⟨"PegCoatsModel", "must", "(I)V"⟩, prog_14_method_13_code, 2, none), (12, false), mc_198)
set_option maxRecDepth 100000 in
/-- 199: PegCoatsModel.begin()V -/
noncomputable def mc_199 : pj_M := [(15, [(0, qe (.aload_n 0) 1 1), (1, qx (.getfield 141) 3 4 12 42 2), (4, qw (.iconst 0) 1 5 0), (5, qw (.iconst 0) 1 6 0), (6, qe (.iastore) 1 7), (7, qe (.aload_n 0) 1 8), (8, qx (.getfield 144) 3 11 12 43 2), (11, qw (.iconst 0) 1 12 0), (12, qw (.iconst 0) 1 13 0), (13, qe (.iastore) 1 14), (14, qe (.aload_n 0) 1 15), (15, qx (.getfield 162) 3 18 12 49 2)]), (34, [(18, qw (.iconst 0) 1 19 0), (19, qw (.iconst 0) 1 20 0), (20, qe (.iastore) 1 21), (21, qw (.iconst 0) 1 22 0), (22, qe (.istore_n 1) 1 23), (23, qe (.iload_n 1) 1 24), (24, qw (.bipush 8) 2 26 8), (26, qx (.if_icmp .ge 16) 3 29 42 0 0), (29, qe (.aload_n 0) 1 30), (30, qx (.getfield 147) 3 33 12 44 2), (33, qe (.iload_n 1) 1 34), (34, qw (.iconst 0) 1 35 0)]), (54, [(35, qe (.iastore) 1 36), (36, qw (.iinc 1 1) 3 39 1), (39, qx (.goto (-16)) 3 42 23 0 0), (42, qw (.iconst 0) 1 43 0), (43, qe (.istore_n 1) 1 44), (44, qe (.iload_n 1) 1 45), (45, qe (.aload_n 0) 1 46), (46, qx (.getfield 63) 3 49 12 17 2), (49, qe (.aload_n 0) 1 50), (50, qx (.getfield 51) 3 53 12 13 0), (53, qe (.iaload) 1 54), (54, qx (.if_icmp .ge 98) 3 57 152 0 0)]), (75, [(57, qe (.aload_n 0) 1 58), (58, qx (.getfield 150) 3 61 12 45 2), (61, qe (.iload_n 1) 1 62), (62, qe (.aload_n 0) 1 63), (63, qx (.getfield 66) 3 66 12 18 2), (66, qw (.bipush 7) 2 68 7), (68, qe (.aload_n 0) 1 69), (69, qx (.getfield 51) 3 72 12 13 0), (72, qe (.imul) 1 73), (73, qe (.iload_n 1) 1 74), (74, qe (.iadd) 1 75), (75, qe (.iaload) 1 76)]), (94, [(76, qe (.iastore) 1 77), (77, qe (.aload_n 0) 1 78), (78, qx (.getfield 153) 3 81 12 46 2), (81, qe (.iload_n 1) 1 82), (82, qe (.aload_n 0) 1 83), (83, qx (.getfield 69) 3 86 12 19 2), (86, qw (.bipush 7) 2 88 7), (88, qe (.aload_n 0) 1 89), (89, qx (.getfield 51) 3 92 12 13 0), (92, qe (.imul) 1 93), (93, qe (.iload_n 1) 1 94), (94, qe (.iadd) 1 95)]), (113, [(95, qe (.iaload) 1 96), (96, qe (.iastore) 1 97), (97, qe (.aload_n 0) 1 98), (98, qx (.getfield 156) 3 101 12 47 2), (101, qe (.iload_n 1) 1 102), (102, qe (.aload_n 0) 1 103), (103, qx (.getfield 72) 3 106 12 20 2), (106, qw (.bipush 7) 2 108 7), (108, qe (.aload_n 0) 1 109), (109, qx (.getfield 51) 3 112 12 13 0), (112, qe (.imul) 1 113), (113, qe (.iload_n 1) 1 114)]), (129, [(114, qe (.iadd) 1 115), (115, qe (.iaload) 1 116), (116, qe (.iastore) 1 117), (117, qe (.aload_n 0) 1 118), (118, qx (.getfield 159) 3 121 12 48 2), (121, qe (.iload_n 1) 1 122), (122, qw (.iconst 0) 1 123 0), (123, qe (.iastore) 1 124), (124, qe (.aload_n 0) 1 125), (125, qx (.getfield 156) 3 128 12 47 2), (128, qe (.iload_n 1) 1 129), (129, qe (.iaload) 1 130)]), (149, [(130, qw (.iconst (-1)) 1 131 (-1)), (131, qx (.if_icmp .eq 15) 3 134 146 0 0), (134, qe (.aload_n 0) 1 135), (135, qx (.getfield 147) 3 138 12 44 2), (138, qe (.aload_n 0) 1 139), (139, qx (.getfield 156) 3 142 12 47 2), (142, qe (.iload_n 1) 1 143), (143, qe (.iaload) 1 144), (144, qw (.iconst 1) 1 145 1), (145, qe (.iastore) 1 146), (146, qw (.iinc 1 1) 3 149 1), (149, qx (.goto (-105)) 3 152 44 0 0)]), (169, [(152, qe (.aload_n 0) 1 153), (153, qx (.getfield 165) 3 156 12 50 2), (156, qw (.iconst 0) 1 157 0), (157, qw (.iconst 0) 1 158 0), (158, qe (.iastore) 1 159), (159, qe (.aload_n 0) 1 160), (160, qw (.iconst 0) 1 161 0), (161, qx (.putfield 174) 3 164 12 53 0), (164, qe (.aload_n 0) 1 165), (165, qw (.iconst 0) 1 166 0), (166, qx (.putfield 195) 3 169 12 60 0), (169, qe (.return_) 1 170)])]
noncomputable def mt_199 : pj_T := ((⟨"PegCoatsModel", "begin", "()V"⟩, prog_14_method_46_code, 2, none), (12, false), mc_199)
set_option maxRecDepth 100000 in
/-- 200: PegCoatsModel.fault(I)I -/
noncomputable def mc_200 : pj_M := [(23, [(0, qe (.iload_n 1) 1 1), (1, qx (.ifCond .ne 10) 3 4 11 0 0), (4, qe (.aload_n 0) 1 5), (5, qx (.getfield 42) 3 8 12 10 0), (8, qx (.goto 16) 3 11 24 0 0), (11, qe (.iload_n 1) 1 12), (12, qw (.iconst 1) 1 13 1), (13, qx (.if_icmp .ne 10) 3 16 23 0 0), (16, qe (.aload_n 0) 1 17), (17, qx (.getfield 45) 3 20 12 11 0), (20, qx (.goto 4) 3 23 24 0 0), (23, qw (.iconst (-1)) 1 24 (-1))]), (24, [(24, qe (.ireturn) 1 25)])]
noncomputable def mt_200 : pj_T := ((⟨"PegCoatsModel", "fault", "(I)I"⟩, prog_14_method_42_code, 2, (some .int)), (12, false), mc_200)
set_option maxRecDepth 100000 in
/-- 201: PegCoatsModel.status(I)I -/
noncomputable def mc_201 : pj_M := [(19, [(0, qe (.iload_n 1) 1 1), (1, qw (.iconst 0) 1 2 0), (2, qw (.iconst 5) 1 3 5), (3, qx (.invokestatic 288) 3 6 179 3 0), (6, qx (.ifCond .eq 12) 3 9 18 0 0), (9, qe (.aload_n 0) 1 10), (10, qx (.getfield 138) 3 13 12 41 2), (13, qe (.iload_n 1) 1 14), (14, qe (.iaload) 1 15), (15, qx (.goto 4) 3 18 19 0 0), (18, qw (.iconst (-1)) 1 19 (-1)), (19, qe (.ireturn) 1 20)])]
noncomputable def mt_201 : pj_T := ((⟨"PegCoatsModel", "status", "(I)I"⟩, prog_14_method_44_code, 2, (some .int)), (12, false), mc_201)
set_option maxRecDepth 100000 in
/-- 202: PegCoatsModel.undo()Z -/
noncomputable def mc_202 : pj_M := [(21, [(0, qe (.aload_n 0) 1 1), (1, qx (.getfield 174) 3 4 12 53 0), (4, qx (.ifCond .ne 17) 3 7 21 0 0), (7, qe (.aload_n 0) 1 8), (8, qw (.iconst 4) 1 9 4), (9, qx (.invokevirtual 216) 3 12 160 2 12), (12, qx (.ifCond .lt 7) 3 15 19 0 0), (15, qw (.iconst 1) 1 16 1), (16, qx (.goto 4) 3 19 20 0 0), (19, qw (.iconst 0) 1 20 0), (20, qe (.ireturn) 1 21), (21, qe (.aload_n 0) 1 22)]), (41, [(22, qe (.dup) 1 23), (23, qx (.getfield 174) 3 26 12 53 0), (26, qw (.iconst 1) 1 27 1), (27, qe (.isub) 1 28), (28, qx (.putfield 174) 3 31 12 53 0), (31, qe (.aload_n 0) 1 32), (32, qw (.iconst 0) 1 33 0), (33, qe (.aload_n 0) 1 34), (34, qe (.aload_n 0) 1 35), (35, qx (.getfield 174) 3 38 12 53 0), (38, qx (.invokevirtual 385) 3 41 203 2 12), (41, qx (.invokevirtual 388) 3 44 204 3 12)]), (45, [(44, qw (.iconst 1) 1 45 1), (45, qe (.ireturn) 1 46)])]
noncomputable def mt_202 : pj_T := ((⟨"PegCoatsModel", "undo", "()Z"⟩, prog_14_method_49_code, 1, (some .boolean)), (12, true), mc_202)
set_option maxRecDepth 100000 in
/-- 203: PegCoatsModel.slot(I)I -/
noncomputable def mc_203 : pj_M := [(11, [(0, qw (.iconst 2) 1 1 2), (1, qe (.aload_n 0) 1 2), (2, qx (.getfield 171) 3 5 12 52 0), (5, qe (.iload_n 1) 1 6), (6, qe (.iadd) 1 7), (7, qw (.bipush 20) 2 9 20), (9, qe (.irem) 1 10), (10, qe (.iadd) 1 11), (11, qe (.ireturn) 1 12)])]
noncomputable def mt_203 : pj_T := ((⟨"PegCoatsModel", "slot", "(I)I"⟩, prog_14_method_47_code, 2, (some .int)), (12, false), mc_203)
set_option maxRecDepth 100000 in
/-- 204: PegCoatsModel.copies(II)V -/
noncomputable def mc_204 : pj_M := [(17, [(0, qe (.aload_n 0) 1 1), (1, qx (.getfield 141) 3 4 12 42 2), (4, qe (.iload_n 1) 1 5), (5, qe (.aload_n 0) 1 6), (6, qx (.getfield 141) 3 9 12 42 2), (9, qe (.iload_n 2) 1 10), (10, qe (.iaload) 1 11), (11, qe (.iastore) 1 12), (12, qe (.aload_n 0) 1 13), (13, qx (.getfield 144) 3 16 12 43 2), (16, qe (.iload_n 1) 1 17), (17, qe (.aload_n 0) 1 18)]), (35, [(18, qx (.getfield 144) 3 21 12 43 2), (21, qe (.iload_n 2) 1 22), (22, qe (.iaload) 1 23), (23, qe (.iastore) 1 24), (24, qe (.aload_n 0) 1 25), (25, qx (.getfield 162) 3 28 12 49 2), (28, qe (.iload_n 1) 1 29), (29, qe (.aload_n 0) 1 30), (30, qx (.getfield 162) 3 33 12 49 2), (33, qe (.iload_n 2) 1 34), (34, qe (.iaload) 1 35), (35, qe (.iastore) 1 36)]), (53, [(36, qw (.iconst 0) 1 37 0), (37, qe (.istore_n 3) 1 38), (38, qe (.iload_n 3) 1 39), (39, qw (.bipush 8) 2 41 8), (41, qx (.if_icmp .ge 31) 3 44 72 0 0), (44, qe (.aload_n 0) 1 45), (45, qx (.getfield 147) 3 48 12 44 2), (48, qw (.bipush 8) 2 50 8), (50, qe (.iload_n 1) 1 51), (51, qe (.imul) 1 52), (52, qe (.iload_n 3) 1 53), (53, qe (.iadd) 1 54)]), (72, [(54, qe (.aload_n 0) 1 55), (55, qx (.getfield 147) 3 58 12 44 2), (58, qw (.bipush 8) 2 60 8), (60, qe (.iload_n 2) 1 61), (61, qe (.imul) 1 62), (62, qe (.iload_n 3) 1 63), (63, qe (.iadd) 1 64), (64, qe (.iaload) 1 65), (65, qe (.iastore) 1 66), (66, qw (.iinc 3 1) 3 69 1), (69, qx (.goto (-31)) 3 72 38 0 0), (72, qw (.iconst 0) 1 73 0)]), (90, [(73, qe (.istore_n 3) 1 74), (74, qe (.iload_n 3) 1 75), (75, qw (.bipush 7) 2 77 7), (77, qx (.if_icmp .ge 97) 3 80 174 0 0), (80, qe (.aload_n 0) 1 81), (81, qx (.getfield 150) 3 84 12 45 2), (84, qw (.bipush 7) 2 86 7), (86, qe (.iload_n 1) 1 87), (87, qe (.imul) 1 88), (88, qe (.iload_n 3) 1 89), (89, qe (.iadd) 1 90), (90, qe (.aload_n 0) 1 91)]), (108, [(91, qx (.getfield 150) 3 94 12 45 2), (94, qw (.bipush 7) 2 96 7), (96, qe (.iload_n 2) 1 97), (97, qe (.imul) 1 98), (98, qe (.iload_n 3) 1 99), (99, qe (.iadd) 1 100), (100, qe (.iaload) 1 101), (101, qe (.iastore) 1 102), (102, qe (.aload_n 0) 1 103), (103, qx (.getfield 153) 3 106 12 46 2), (106, qw (.bipush 7) 2 108 7), (108, qe (.iload_n 1) 1 109)]), (123, [(109, qe (.imul) 1 110), (110, qe (.iload_n 3) 1 111), (111, qe (.iadd) 1 112), (112, qe (.aload_n 0) 1 113), (113, qx (.getfield 153) 3 116 12 46 2), (116, qw (.bipush 7) 2 118 7), (118, qe (.iload_n 2) 1 119), (119, qe (.imul) 1 120), (120, qe (.iload_n 3) 1 121), (121, qe (.iadd) 1 122), (122, qe (.iaload) 1 123), (123, qe (.iastore) 1 124)]), (141, [(124, qe (.aload_n 0) 1 125), (125, qx (.getfield 156) 3 128 12 47 2), (128, qw (.bipush 7) 2 130 7), (130, qe (.iload_n 1) 1 131), (131, qe (.imul) 1 132), (132, qe (.iload_n 3) 1 133), (133, qe (.iadd) 1 134), (134, qe (.aload_n 0) 1 135), (135, qx (.getfield 156) 3 138 12 47 2), (138, qw (.bipush 7) 2 140 7), (140, qe (.iload_n 2) 1 141), (141, qe (.imul) 1 142)]), (156, [(142, qe (.iload_n 3) 1 143), (143, qe (.iadd) 1 144), (144, qe (.iaload) 1 145), (145, qe (.iastore) 1 146), (146, qe (.aload_n 0) 1 147), (147, qx (.getfield 159) 3 150 12 48 2), (150, qw (.bipush 7) 2 152 7), (152, qe (.iload_n 1) 1 153), (153, qe (.imul) 1 154), (154, qe (.iload_n 3) 1 155), (155, qe (.iadd) 1 156), (156, qe (.aload_n 0) 1 157)]), (175, [(157, qx (.getfield 159) 3 160 12 48 2), (160, qw (.bipush 7) 2 162 7), (162, qe (.iload_n 2) 1 163), (163, qe (.imul) 1 164), (164, qe (.iload_n 3) 1 165), (165, qe (.iadd) 1 166), (166, qe (.iaload) 1 167), (167, qe (.iastore) 1 168), (168, qw (.iinc 3 1) 3 171 1), (171, qx (.goto (-97)) 3 174 74 0 0), (174, qe (.aload_n 0) 1 175), (175, qx (.getfield 165) 3 178 12 50 2)]), (191, [(178, qe (.iload_n 1) 1 179), (179, qe (.aload_n 0) 1 180), (180, qx (.getfield 165) 3 183 12 50 2), (183, qe (.iload_n 2) 1 184), (184, qe (.iaload) 1 185), (185, qe (.iastore) 1 186), (186, qw (.iconst 0) 1 187 0), (187, qe (.istore_n 3) 1 188), (188, qe (.iload_n 3) 1 189), (189, qw (.iconst 3) 1 190 3), (190, qe (.aload_n 0) 1 191), (191, qx (.getfield 165) 3 194 12 50 2)]), (210, [(194, qe (.iload_n 2) 1 195), (195, qe (.iaload) 1 196), (196, qe (.imul) 1 197), (197, qx (.if_icmp .ge 31) 3 200 228 0 0), (200, qe (.aload_n 0) 1 201), (201, qx (.getfield 168) 3 204 12 51 2), (204, qw (.bipush 120) 2 206 120), (206, qe (.iload_n 1) 1 207), (207, qe (.imul) 1 208), (208, qe (.iload_n 3) 1 209), (209, qe (.iadd) 1 210), (210, qe (.aload_n 0) 1 211)]), (228, [(211, qx (.getfield 168) 3 214 12 51 2), (214, qw (.bipush 120) 2 216 120), (216, qe (.iload_n 2) 1 217), (217, qe (.imul) 1 218), (218, qe (.iload_n 3) 1 219), (219, qe (.iadd) 1 220), (220, qe (.iaload) 1 221), (221, qe (.iastore) 1 222), (222, qw (.iinc 3 1) 3 225 1), (225, qx (.goto (-37)) 3 228 188 0 0), (228, qe (.return_) 1 229)])]
noncomputable def mt_204 : pj_T := ((⟨"PegCoatsModel", "copies", "(II)V"⟩, prog_14_method_45_code, 4, none), (12, false), mc_204)
set_option maxRecDepth 100000 in
/-- 205: PegCoatsModel.has(I)I -/
noncomputable def mc_205 : pj_M := [(71, [(0, qw (.iconst 0) 1 1 0), (1, qe (.istore_n 2) 1 2), (2, qe (.iload_n 1) 1 3), (3, qs (.tableswitch 272 0 10 #[57, 67, 77, 84, 124, 165, 205, 249, 256, 261, 266]) 57 60 275 [(0, 60), (1, 70), (2, 80), (3, 87), (4, 127), (5, 168), (6, 208), (7, 252), (8, 259), (9, 264), (10, 269)]), (60, qe (.aload_n 0) 1 61), (61, qx (.getfield 54) 3 64 12 14 2), (64, qe (.aload_n 0) 1 65), (65, qx (.getfield 51) 3 68 12 13 0), (68, qe (.iaload) 1 69), (69, qe (.ireturn) 1 70), (70, qe (.aload_n 0) 1 71), (71, qx (.getfield 63) 3 74 12 17 2)]), (89, [(74, qe (.aload_n 0) 1 75), (75, qx (.getfield 51) 3 78 12 13 0), (78, qe (.iaload) 1 79), (79, qe (.ireturn) 1 80), (80, qe (.aload_n 0) 1 81), (81, qx (.getfield 141) 3 84 12 42 2), (84, qw (.iconst 0) 1 85 0), (85, qe (.iaload) 1 86), (86, qe (.ireturn) 1 87), (87, qw (.iconst 0) 1 88 0), (88, qe (.istore_n 3) 1 89), (89, qe (.iload_n 3) 1 90)]), (109, [(90, qe (.aload_n 0) 1 91), (91, qx (.getfield 63) 3 94 12 17 2), (94, qe (.aload_n 0) 1 95), (95, qx (.getfield 51) 3 98 12 13 0), (98, qe (.iaload) 1 99), (99, qx (.if_icmp .ge 26) 3 102 125 0 0), (102, qe (.iload_n 2) 1 103), (103, qe (.aload_n 0) 1 104), (104, qw (.iconst 0) 1 105 0), (105, qe (.iload_n 3) 1 106), (106, qx (.invokevirtual 430) 3 109 206 3 12), (109, qx (.ifCond .eq 7) 3 112 116 0 0)]), (129, [(112, qw (.iconst 1) 1 113 1), (113, qx (.goto 4) 3 116 117 0 0), (116, qw (.iconst 0) 1 117 0), (117, qe (.iadd) 1 118), (118, qe (.istore_n 2) 1 119), (119, qw (.iinc 3 1) 3 122 1), (122, qx (.goto (-33)) 3 125 89 0 0), (125, qe (.iload_n 2) 1 126), (126, qe (.ireturn) 1 127), (127, qw (.iconst 0) 1 128 0), (128, qe (.istore_n 3) 1 129), (129, qe (.iload_n 3) 1 130)]), (149, [(130, qe (.aload_n 0) 1 131), (131, qx (.getfield 63) 3 134 12 17 2), (134, qe (.aload_n 0) 1 135), (135, qx (.getfield 51) 3 138 12 13 0), (138, qe (.iaload) 1 139), (139, qx (.if_icmp .ge 27) 3 142 166 0 0), (142, qe (.iload_n 2) 1 143), (143, qe (.aload_n 0) 1 144), (144, qx (.getfield 156) 3 147 12 47 2), (147, qe (.iload_n 3) 1 148), (148, qe (.iaload) 1 149), (149, qw (.iconst (-1)) 1 150 (-1))]), (169, [(150, qx (.if_icmp .ne 7) 3 153 157 0 0), (153, qw (.iconst 0) 1 154 0), (154, qx (.goto 4) 3 157 158 0 0), (157, qw (.iconst 1) 1 158 1), (158, qe (.iadd) 1 159), (159, qe (.istore_n 2) 1 160), (160, qw (.iinc 3 1) 3 163 1), (163, qx (.goto (-34)) 3 166 129 0 0), (166, qe (.iload_n 2) 1 167), (167, qe (.ireturn) 1 168), (168, qw (.iconst 0) 1 169 0), (169, qe (.istore_n 3) 1 170)]), (187, [(170, qe (.iload_n 3) 1 171), (171, qe (.aload_n 0) 1 172), (172, qx (.getfield 54) 3 175 12 14 2), (175, qe (.aload_n 0) 1 176), (176, qx (.getfield 51) 3 179 12 13 0), (179, qe (.iaload) 1 180), (180, qx (.if_icmp .ge 26) 3 183 206 0 0), (183, qe (.iload_n 2) 1 184), (184, qe (.aload_n 0) 1 185), (185, qw (.iconst 0) 1 186 0), (186, qe (.iload_n 3) 1 187), (187, qx (.invokevirtual 427) 3 190 208 3 12)]), (209, [(190, qx (.ifCond .eq 7) 3 193 197 0 0), (193, qw (.iconst 1) 1 194 1), (194, qx (.goto 4) 3 197 198 0 0), (197, qw (.iconst 0) 1 198 0), (198, qe (.iadd) 1 199), (199, qe (.istore_n 2) 1 200), (200, qw (.iinc 3 1) 3 203 1), (203, qx (.goto (-33)) 3 206 170 0 0), (206, qe (.iload_n 2) 1 207), (207, qe (.ireturn) 1 208), (208, qw (.iconst 0) 1 209 0), (209, qe (.istore_n 3) 1 210)]), (229, [(210, qe (.iload_n 3) 1 211), (211, qe (.aload_n 0) 1 212), (212, qx (.getfield 54) 3 215 12 14 2), (215, qe (.aload_n 0) 1 216), (216, qx (.getfield 51) 3 219 12 13 0), (219, qe (.iaload) 1 220), (220, qx (.if_icmp .ge 30) 3 223 250 0 0), (223, qe (.iload_n 2) 1 224), (224, qe (.aload_n 0) 1 225), (225, qx (.getfield 144) 3 228 12 43 2), (228, qw (.iconst 0) 1 229 0), (229, qe (.iaload) 1 230)]), (251, [(230, qe (.iload_n 3) 1 231), (231, qx (.invokestatic 407) 3 234 207 2 0), (234, qx (.ifCond .eq 7) 3 237 241 0 0), (237, qw (.iconst 1) 1 238 1), (238, qx (.goto 4) 3 241 242 0 0), (241, qw (.iconst 0) 1 242 0), (242, qe (.iadd) 1 243), (243, qe (.istore_n 2) 1 244), (244, qw (.iinc 3 1) 3 247 1), (247, qx (.goto (-37)) 3 250 210 0 0), (250, qe (.iload_n 2) 1 251), (251, qe (.ireturn) 1 252)]), (269, [(252, qe (.aload_n 0) 1 253), (253, qx (.getfield 165) 3 256 12 50 2), (256, qw (.iconst 0) 1 257 0), (257, qe (.iaload) 1 258), (258, qe (.ireturn) 1 259), (259, qe (.aload_n 0) 1 260), (260, qx (.getfield 195) 3 263 12 60 0), (263, qe (.ireturn) 1 264), (264, qe (.aload_n 0) 1 265), (265, qx (.getfield 174) 3 268 12 53 0), (268, qe (.ireturn) 1 269), (269, qe (.aload_n 0) 1 270)]), (276, [(270, qx (.getfield 177) 3 273 12 54 1), (273, qe (.l2i) 1 274), (274, qe (.ireturn) 1 275), (275, qw (.iconst (-1)) 1 276 (-1)), (276, qe (.ireturn) 1 277)])]
noncomputable def mt_205 : pj_T := ((⟨"PegCoatsModel", "has", "(I)I"⟩, prog_14_method_69_code, 4, (some .int)), (12, false), mc_205)
set_option maxRecDepth 100000 in
/-- 206: PegCoatsModel.isThere(II)Z -/
noncomputable def mc_206 : pj_M := [(18, [(0, qe (.aload_n 0) 1 1), (1, qx (.getfield 162) 3 4 12 49 2), (4, qe (.iload_n 1) 1 5), (5, qe (.iaload) 1 6), (6, qe (.iload_n 2) 1 7), (7, qx (.invokestatic 407) 3 10 207 2 0), (10, qx (.ifCond .ne 7) 3 13 17 0 0), (13, qw (.iconst 1) 1 14 1), (14, qx (.goto 4) 3 17 18 0 0), (17, qw (.iconst 0) 1 18 0), (18, qe (.ireturn) 1 19)])]
noncomputable def mt_206 : pj_T := ((⟨"PegCoatsModel", "isThere", "(II)Z"⟩, prog_14_method_55_code, 3, (some .boolean)), (12, true), mc_206)
set_option maxRecDepth 100000 in
/-- 207: PegCoatsModel.has2(II)Z -/
noncomputable def mc_207 : pj_M := [(14, [(0, qe (.iload_n 0) 1 1), (1, qe (.iload_n 1) 1 2), (2, qe (.ishr) 1 3), (3, qw (.iconst 1) 1 4 1), (4, qe (.iand) 1 5), (5, qw (.iconst 1) 1 6 1), (6, qx (.if_icmp .ne 7) 3 9 13 0 0), (9, qw (.iconst 1) 1 10 1), (10, qx (.goto 4) 3 13 14 0 0), (13, qw (.iconst 0) 1 14 0), (14, qe (.ireturn) 1 15)])]
noncomputable def mt_207 : pj_T := ((⟨"PegCoatsModel", "has2", "(II)Z"⟩, prog_14_method_30_code, 2, (some .boolean)), (12, true), mc_207)
set_option maxRecDepth 100000 in
/-- 208: PegCoatsModel.isOnPeg(II)Z -/
noncomputable def mc_208 : pj_M := [(19, [(0, qe (.aload_n 0) 1 1), (1, qx (.getfield 144) 3 4 12 43 2), (4, qe (.iload_n 1) 1 5), (5, qe (.iaload) 1 6), (6, qe (.iload_n 2) 1 7), (7, qx (.invokestatic 407) 3 10 207 2 0), (10, qx (.ifCond .ne 17) 3 13 27 0 0), (13, qe (.aload_n 0) 1 14), (14, qe (.iload_n 1) 1 15), (15, qe (.iload_n 2) 1 16), (16, qx (.invokevirtual 411) 3 19 209 3 12), (19, qw (.iconst (-1)) 1 20 (-1))]), (28, [(20, qx (.if_icmp .ne 7) 3 23 27 0 0), (23, qw (.iconst 1) 1 24 1), (24, qx (.goto 4) 3 27 28 0 0), (27, qw (.iconst 0) 1 28 0), (28, qe (.ireturn) 1 29)])]
noncomputable def mt_208 : pj_T := ((⟨"PegCoatsModel", "isOnPeg", "(II)Z"⟩, prog_14_method_57_code, 3, (some .boolean)), (12, true), mc_208)
set_option maxRecDepth 100000 in
/-- 209: PegCoatsModel.whoHas(II)I -/
noncomputable def mc_209 : pj_M := [(19, [(0, qw (.iconst 0) 1 1 0), (1, qe (.istore_n 3) 1 2), (2, qe (.iload_n 3) 1 3), (3, qe (.aload_n 0) 1 4), (4, qx (.getfield 63) 3 7 12 17 2), (7, qe (.aload_n 0) 1 8), (8, qx (.getfield 51) 3 11 12 13 0), (11, qe (.iaload) 1 12), (12, qx (.if_icmp .ge 26) 3 15 38 0 0), (15, qe (.aload_n 0) 1 16), (16, qx (.getfield 156) 3 19 12 47 2), (19, qw (.bipush 7) 2 21 7)]), (38, [(21, qe (.iload_n 1) 1 22), (22, qe (.imul) 1 23), (23, qe (.iload_n 3) 1 24), (24, qe (.iadd) 1 25), (25, qe (.iaload) 1 26), (26, qe (.iload_n 2) 1 27), (27, qx (.if_icmp .ne 5) 3 30 32 0 0), (30, qe (.iload_n 3) 1 31), (31, qe (.ireturn) 1 32), (32, qw (.iinc 3 1) 3 35 1), (35, qx (.goto (-33)) 3 38 2 0 0), (38, qw (.iconst (-1)) 1 39 (-1))]), (39, [(39, qe (.ireturn) 1 40)])]
noncomputable def mt_209 : pj_T := ((⟨"PegCoatsModel", "whoHas", "(II)I"⟩, prog_14_method_56_code, 4, (some .int)), (12, false), mc_209)
set_option maxRecDepth 100000 in
/-- 210: PegCoatsModel.letter(III)I -/
noncomputable def mc_210 : pj_M := [(19, [(0, qe (.iload_n 1) 1 1), (1, qx (.ifCond .ne 11) 3 4 12 0 0), (4, qe (.aload_n 0) 1 5), (5, qe (.iload_n 2) 1 6), (6, qx (.invokevirtual 453) 3 9 211 2 12), (9, qx (.goto 21) 3 12 30 0 0), (12, qe (.iload_n 1) 1 13), (13, qw (.iconst 1) 1 14 1), (14, qx (.if_icmp .ne 15) 3 17 29 0 0), (17, qe (.aload_n 0) 1 18), (18, qe (.iload_n 2) 1 19), (19, qx (.invokevirtual 450) 3 22 212 2 12)]), (43, [(22, qx (.ifCond .eq 7) 3 25 29 0 0), (25, qw (.iconst 1) 1 26 1), (26, qx (.goto 4) 3 29 30 0 0), (29, qw (.iconst 0) 1 30 0), (30, qe (.istore 4) 2 32), (32, qe (.iload 4) 2 34), (34, qx (.ifCond .eq 12) 3 37 46 0 0), (37, qe (.iload_n 3) 1 38), (38, qw (.iconst 0) 1 39 0), (39, qw (.iconst 5) 1 40 5), (40, qx (.invokestatic 288) 3 43 179 3 0), (43, qx (.ifCond .ne 5) 3 46 48 0 0)]), (64, [(46, qw (.iconst (-1)) 1 47 (-1)), (47, qe (.ireturn) 1 48), (48, qe (.iload_n 1) 1 49), (49, qx (.ifCond .ne 20) 3 52 69 0 0), (52, qe (.aload_n 0) 1 53), (53, qx (.getfield 90) 3 56 12 26 2), (56, qw (.bipush 8) 2 58 8), (58, qe (.aload_n 0) 1 59), (59, qx (.getfield 51) 3 62 12 13 0), (62, qe (.imul) 1 63), (63, qe (.iload_n 2) 1 64), (64, qe (.iadd) 1 65)]), (83, [(65, qe (.laload) 1 66), (66, qx (.goto 17) 3 69 83 0 0), (69, qe (.aload_n 0) 1 70), (70, qx (.getfield 94) 3 73 12 27 2), (73, qw (.bipush 7) 2 75 7), (75, qe (.aload_n 0) 1 76), (76, qx (.getfield 51) 3 79 12 13 0), (79, qe (.imul) 1 80), (80, qe (.iload_n 2) 1 81), (81, qe (.iadd) 1 82), (82, qe (.laload) 1 83), (83, qe (.lstore 5) 2 85)]), (106, [(85, qw (.iconst 0) 1 86 0), (86, qe (.istore 7) 2 88), (88, qe (.lload 5) 2 90), (90, qe (.lstore 8) 2 92), (92, qe (.lload 8) 2 94), (94, ql (.lconst 0) 1 95 0), (95, qe (.lcmp) 1 96), (96, qx (.ifCond .le 16) 3 99 112 0 0), (99, qw (.iinc 7 1) 3 102 1), (102, qe (.lload 8) 2 104), (104, qw (.bipush 8) 2 106 8), (106, qe (.lshr) 1 107)]), (129, [(107, qe (.lstore 8) 2 109), (109, qx (.goto (-17)) 3 112 92 0 0), (112, qe (.iload_n 3) 1 113), (113, qe (.iload 7) 2 115), (115, qx (.if_icmp .lt 7) 3 118 122 0 0), (118, qw (.iconst 0) 1 119 0), (119, qx (.goto 25) 3 122 144 0 0), (122, qe (.lload 5) 2 124), (124, qw (.bipush 8) 2 126 8), (126, qe (.iload 7) 2 128), (128, qw (.iconst 1) 1 129 1), (129, qe (.isub) 1 130)]), (144, [(130, qe (.iload_n 3) 1 131), (131, qe (.isub) 1 132), (132, qe (.imul) 1 133), (133, qe (.lshr) 1 134), (134, ql (.ldc2_w 456) 3 137 255), (137, qe (.land) 1 138), (138, qe (.l2i) 1 139), (139, qw (.bipush 97) 2 141 97), (141, qe (.isub) 1 142), (142, qw (.iconst 1) 1 143 1), (143, qe (.iadd) 1 144), (144, qe (.ireturn) 1 145)])]
noncomputable def mt_210 : pj_T := ((⟨"PegCoatsModel", "letter", "(III)I"⟩, prog_14_method_70_code, 10, (some .int)), (12, false), mc_210)
set_option maxRecDepth 100000 in
/-- 211: PegCoatsModel.isCoat(I)Z -/
noncomputable def mc_211 : pj_M := [(21, [(0, qe (.iload_n 1) 1 1), (1, qx (.ifCond .lt 20) 3 4 21 0 0), (4, qe (.iload_n 1) 1 5), (5, qe (.aload_n 0) 1 6), (6, qx (.getfield 54) 3 9 12 14 2), (9, qe (.aload_n 0) 1 10), (10, qx (.getfield 51) 3 13 12 13 0), (13, qe (.iaload) 1 14), (14, qx (.if_icmp .ge 7) 3 17 21 0 0), (17, qw (.iconst 1) 1 18 1), (18, qx (.goto 4) 3 21 22 0 0), (21, qw (.iconst 0) 1 22 0)]), (22, [(22, qe (.ireturn) 1 23)])]
noncomputable def mt_211 : pj_T := ((⟨"PegCoatsModel", "isCoat", "(I)Z"⟩, prog_14_method_66_code, 2, (some .boolean)), (12, true), mc_211)
set_option maxRecDepth 100000 in
/-- 212: PegCoatsModel.isMan(I)Z -/
noncomputable def mc_212 : pj_M := [(21, [(0, qe (.iload_n 1) 1 1), (1, qx (.ifCond .lt 20) 3 4 21 0 0), (4, qe (.iload_n 1) 1 5), (5, qe (.aload_n 0) 1 6), (6, qx (.getfield 63) 3 9 12 17 2), (9, qe (.aload_n 0) 1 10), (10, qx (.getfield 51) 3 13 12 13 0), (13, qe (.iaload) 1 14), (14, qx (.if_icmp .ge 7) 3 17 21 0 0), (17, qw (.iconst 1) 1 18 1), (18, qx (.goto 4) 3 21 22 0 0), (21, qw (.iconst 0) 1 22 0)]), (22, [(22, qe (.ireturn) 1 23)])]
noncomputable def mt_212 : pj_T := ((⟨"PegCoatsModel", "isMan", "(I)Z"⟩, prog_14_method_67_code, 2, (some .boolean)), (12, true), mc_212)
set_option maxRecDepth 100000 in
/-- 213: PegCoatsModel.coat(II)I -/
noncomputable def mc_213 : pj_M := [(50, [(0, qe (.aload_n 0) 1 1), (1, qe (.iload_n 1) 1 2), (2, qx (.invokevirtual 453) 3 5 211 2 12), (5, qx (.ifCond .ne 5) 3 8 10 0 0), (8, qw (.iconst (-1)) 1 9 (-1)), (9, qe (.ireturn) 1 10), (10, qe (.iload_n 2) 1 11), (11, qs (.tableswitch 96 0 4 #[33, 48, 63, 70, 89]) 33 44 107 [(0, 44), (1, 59), (2, 74), (3, 81), (4, 100)]), (44, qe (.aload_n 0) 1 45), (45, qx (.getfield 57) 3 48 12 15 2), (48, qw (.bipush 8) 2 50 8), (50, qe (.aload_n 0) 1 51)]), (69, [(51, qx (.getfield 51) 3 54 12 13 0), (54, qe (.imul) 1 55), (55, qe (.iload_n 1) 1 56), (56, qe (.iadd) 1 57), (57, qe (.iaload) 1 58), (58, qe (.ireturn) 1 59), (59, qe (.aload_n 0) 1 60), (60, qx (.getfield 60) 3 63 12 16 2), (63, qw (.bipush 8) 2 65 8), (65, qe (.aload_n 0) 1 66), (66, qx (.getfield 51) 3 69 12 13 0), (69, qe (.imul) 1 70)]), (85, [(70, qe (.iload_n 1) 1 71), (71, qe (.iadd) 1 72), (72, qe (.iaload) 1 73), (73, qe (.ireturn) 1 74), (74, qe (.aload_n 0) 1 75), (75, qx (.getfield 147) 3 78 12 44 2), (78, qe (.iload_n 1) 1 79), (79, qe (.iaload) 1 80), (80, qe (.ireturn) 1 81), (81, qe (.aload_n 0) 1 82), (82, qx (.getfield 144) 3 85 12 43 2), (85, qw (.iconst 0) 1 86 0)]), (103, [(86, qe (.iaload) 1 87), (87, qe (.iload_n 1) 1 88), (88, qx (.invokestatic 407) 3 91 207 2 0), (91, qx (.ifCond .eq 7) 3 94 98 0 0), (94, qw (.iconst 1) 1 95 1), (95, qx (.goto 4) 3 98 99 0 0), (98, qw (.iconst 0) 1 99 0), (99, qe (.ireturn) 1 100), (100, qe (.aload_n 0) 1 101), (101, qw (.iconst 0) 1 102 0), (102, qe (.iload_n 1) 1 103), (103, qx (.invokevirtual 411) 3 106 209 3 12)]), (108, [(106, qe (.ireturn) 1 107), (107, qw (.iconst (-1)) 1 108 (-1)), (108, qe (.ireturn) 1 109)])]
noncomputable def mt_213 : pj_T := ((⟨"PegCoatsModel", "coat", "(II)I"⟩, prog_14_method_71_code, 3, (some .int)), (12, false), mc_213)
set_option maxRecDepth 100000 in
/-- 214: PegCoatsModel.man(II)I -/
noncomputable def mc_214 : pj_M := [(49, [(0, qe (.aload_n 0) 1 1), (1, qe (.iload_n 1) 1 2), (2, qx (.invokevirtual 450) 3 5 212 2 12), (5, qx (.ifCond .ne 5) 3 8 10 0 0), (8, qw (.iconst (-1)) 1 9 (-1)), (9, qe (.ireturn) 1 10), (10, qe (.iload_n 2) 1 11), (11, qs (.tableswitch 76 0 4 #[33, 40, 47, 54, 61]) 33 44 87 [(0, 44), (1, 51), (2, 58), (3, 65), (4, 72)]), (44, qe (.aload_n 0) 1 45), (45, qx (.getfield 150) 3 48 12 45 2), (48, qe (.iload_n 1) 1 49), (49, qe (.iaload) 1 50)]), (65, [(50, qe (.ireturn) 1 51), (51, qe (.aload_n 0) 1 52), (52, qx (.getfield 153) 3 55 12 46 2), (55, qe (.iload_n 1) 1 56), (56, qe (.iaload) 1 57), (57, qe (.ireturn) 1 58), (58, qe (.aload_n 0) 1 59), (59, qx (.getfield 156) 3 62 12 47 2), (62, qe (.iload_n 1) 1 63), (63, qe (.iaload) 1 64), (64, qe (.ireturn) 1 65), (65, qe (.aload_n 0) 1 66)]), (85, [(66, qx (.getfield 159) 3 69 12 48 2), (69, qe (.iload_n 1) 1 70), (70, qe (.iaload) 1 71), (71, qe (.ireturn) 1 72), (72, qe (.aload_n 0) 1 73), (73, qw (.iconst 0) 1 74 0), (74, qe (.iload_n 1) 1 75), (75, qx (.invokevirtual 430) 3 78 206 3 12), (78, qx (.ifCond .eq 7) 3 81 85 0 0), (81, qw (.iconst 1) 1 82 1), (82, qx (.goto 4) 3 85 86 0 0), (85, qw (.iconst 0) 1 86 0)]), (88, [(86, qe (.ireturn) 1 87), (87, qw (.iconst (-1)) 1 88 (-1)), (88, qe (.ireturn) 1 89)])]
noncomputable def mt_214 : pj_T := ((⟨"PegCoatsModel", "man", "(II)I"⟩, prog_14_method_72_code, 3, (some .int)), (12, false), mc_214)
set_option maxRecDepth 100000 in
/-- 215: PegCoatsModel.warms(II)J -/
noncomputable def mc_215 : pj_M := [(19, [(0, qe (.aload_n 0) 1 1), (1, qe (.iload_n 1) 1 2), (2, qx (.invokevirtual 450) 3 5 212 2 12), (5, qx (.ifCond .eq 21) 3 8 26 0 0), (8, qe (.aload_n 0) 1 9), (9, qe (.iload_n 2) 1 10), (10, qx (.invokevirtual 453) 3 13 211 2 12), (13, qx (.ifCond .eq 13) 3 16 26 0 0), (16, qe (.aload_n 0) 1 17), (17, qw (.iconst 0) 1 18 0), (18, qe (.iload_n 1) 1 19), (19, qe (.iload_n 2) 1 20)]), (29, [(20, qx (.invokevirtual 458) 3 23 216 4 12), (23, qx (.goto 6) 3 26 29 0 0), (26, ql (.ldc2_w 462) 3 29 (-1000000000000000)), (29, qe (.lreturn) 1 30)])]
noncomputable def mt_215 : pj_T := ((⟨"PegCoatsModel", "warms", "(II)J"⟩, prog_14_method_73_code, 3, (some .long)), (12, false), mc_215)
set_option maxRecDepth 100000 in
/-- 216: PegCoatsModel.warmed(III)J -/
noncomputable def mc_216 : pj_M := [(18, [(0, qe (.iload_n 3) 1 1), (1, qw (.iconst (-1)) 1 2 (-1)), (2, qx (.if_icmp .ne 7) 3 5 9 0 0), (5, ql (.lconst 0) 1 6 0), (6, qx (.goto 31) 3 9 37 0 0), (9, qe (.aload_n 0) 1 10), (10, qe (.iload_n 1) 1 11), (11, qe (.iload_n 3) 1 12), (12, qe (.aload_n 0) 1 13), (13, qx (.getfield 150) 3 16 12 45 2), (16, qw (.bipush 7) 2 18 7), (18, qe (.iload_n 1) 1 19)]), (33, [(19, qe (.imul) 1 20), (20, qe (.iload_n 2) 1 21), (21, qe (.iadd) 1 22), (22, qe (.iaload) 1 23), (23, qe (.aload_n 0) 1 24), (24, qx (.getfield 153) 3 27 12 46 2), (27, qw (.bipush 7) 2 29 7), (29, qe (.iload_n 1) 1 30), (30, qe (.imul) 1 31), (31, qe (.iload_n 2) 1 32), (32, qe (.iadd) 1 33), (33, qe (.iaload) 1 34)]), (37, [(34, qx (.invokevirtual 421) 3 37 217 5 12), (37, qe (.lreturn) 1 38)])]
noncomputable def mt_216 : pj_T := ((⟨"PegCoatsModel", "warmed", "(III)J"⟩, prog_14_method_59_code, 4, (some .long)), (12, false), mc_216)
set_option maxRecDepth 100000 in
/-- 217: PegCoatsModel.warmth(IIII)J -/
noncomputable def mc_217 : pj_M := [(17, [(0, qe (.aload_n 0) 1 1), (1, qx (.getfield 57) 3 4 12 15 2), (4, qw (.bipush 8) 2 6 8), (6, qe (.aload_n 0) 1 7), (7, qx (.getfield 51) 3 10 12 13 0), (10, qe (.imul) 1 11), (11, qe (.iload_n 2) 1 12), (12, qe (.iadd) 1 13), (13, qe (.iaload) 1 14), (14, qe (.istore 5) 2 16), (16, qe (.aload_n 0) 1 17), (17, qw (.iconst 0) 1 18 0)]), (38, [(18, qx (.invokevirtual 414) 3 21 218 2 12), (21, qx (.ifCond .ne 29) 3 24 50 0 0), (24, qe (.iload_n 3) 1 25), (25, qe (.iload 5) 2 27), (27, qx (.if_icmp .le 14) 3 30 41 0 0), (30, qw (.bipush 10) 2 32 10), (32, qe (.iload_n 3) 1 33), (33, qe (.iload 5) 2 35), (35, qe (.isub) 1 36), (36, qe (.isub) 1 37), (37, qe (.i2l) 1 38), (38, qx (.goto 11) 3 41 49 0 0)]), (56, [(41, qw (.bipush 10) 2 43 10), (43, qe (.iload 5) 2 45), (45, qe (.iload_n 3) 1 46), (46, qe (.isub) 1 47), (47, qe (.isub) 1 48), (48, qe (.i2l) 1 49), (49, qe (.lreturn) 1 50), (50, qe (.aload_n 0) 1 51), (51, qx (.getfield 183) 3 54 12 56 2), (54, qw (.iconst 1) 1 55 1), (55, qe (.iload_n 3) 1 56), (56, qe (.iastore) 1 57)]), (75, [(57, qe (.aload_n 0) 1 58), (58, qx (.getfield 183) 3 61 12 56 2), (61, qw (.iconst 2) 1 62 2), (62, qe (.iload 4) 2 64), (64, qe (.iastore) 1 65), (65, qe (.aload_n 0) 1 66), (66, qx (.getfield 183) 3 69 12 56 2), (69, qw (.iconst 3) 1 70 3), (70, qe (.aload_n 0) 1 71), (71, qx (.getfield 141) 3 74 12 42 2), (74, qe (.iload_n 1) 1 75), (75, qe (.iaload) 1 76)]), (94, [(76, qe (.iastore) 1 77), (77, qe (.aload_n 0) 1 78), (78, qx (.getfield 183) 3 81 12 56 2), (81, qw (.iconst 4) 1 82 4), (82, qe (.iload 5) 2 84), (84, qe (.iastore) 1 85), (85, qe (.aload_n 0) 1 86), (86, qx (.getfield 183) 3 89 12 56 2), (89, qw (.iconst 5) 1 90 5), (90, qe (.aload_n 0) 1 91), (91, qx (.getfield 60) 3 94 12 16 2), (94, qw (.bipush 8) 2 96 8)]), (112, [(96, qe (.aload_n 0) 1 97), (97, qx (.getfield 51) 3 100 12 13 0), (100, qe (.imul) 1 101), (101, qe (.iload_n 2) 1 102), (102, qe (.iadd) 1 103), (103, qe (.iaload) 1 104), (104, qe (.iastore) 1 105), (105, qe (.aload_n 0) 1 106), (106, qx (.getfield 183) 3 109 12 56 2), (109, qw (.bipush 6) 2 111 6), (111, qe (.aload_n 0) 1 112), (112, qx (.getfield 147) 3 115 12 44 2)]), (128, [(115, qw (.bipush 8) 2 117 8), (117, qe (.iload_n 1) 1 118), (118, qe (.imul) 1 119), (119, qe (.iload_n 2) 1 120), (120, qe (.iadd) 1 121), (121, qe (.iaload) 1 122), (122, qe (.iastore) 1 123), (123, qe (.aload_n 0) 1 124), (124, qw (.iconst 0) 1 125 0), (125, qx (.invokevirtual 417) 3 128 219 2 12), (128, qe (.lreturn) 1 129)])]
noncomputable def mt_217 : pj_T := ((⟨"PegCoatsModel", "warmth", "(IIII)J"⟩, prog_14_method_58_code, 6, (some .long)), (12, false), mc_217)
set_option maxRecDepth 100000 in
/-- 218: PegCoatsModel.isTold(I)Z -/
noncomputable def mc_218 : pj_M := [(17, [(0, qe (.aload_n 0) 1 1), (1, qx (.getfield 78) 3 4 12 22 2), (4, qw (.iconst 3) 1 5 3), (5, qe (.aload_n 0) 1 6), (6, qx (.getfield 51) 3 9 12 13 0), (9, qe (.imul) 1 10), (10, qe (.iload_n 1) 1 11), (11, qe (.iadd) 1 12), (12, qe (.iaload) 1 13), (13, qw (.iconst (-1)) 1 14 (-1)), (14, qx (.if_icmp .eq 7) 3 17 21 0 0), (17, qw (.iconst 1) 1 18 1)]), (22, [(18, qx (.goto 4) 3 21 22 0 0), (21, qw (.iconst 0) 1 22 0), (22, qe (.ireturn) 1 23)])]
noncomputable def mt_218 : pj_T := ((⟨"PegCoatsModel", "isTold", "(I)Z"⟩, prog_14_method_54_code, 2, (some .boolean)), (12, true), mc_218)
set_option maxRecDepth 100000 in
/-- 219: PegCoatsModel.reckons(I)J -/
noncomputable def mc_219 : pj_M := [(19, [(0, qw (.iconst 0) 1 1 0), (1, qe (.istore_n 2) 1 2), (2, qw (.sipush 1600) 3 5 1600), (5, qe (.aload_n 0) 1 6), (6, qx (.getfield 51) 3 9 12 13 0), (9, qe (.imul) 1 10), (10, qe (.aload_n 0) 1 11), (11, qx (.getfield 78) 3 14 12 22 2), (14, qw (.iconst 3) 1 15 3), (15, qe (.aload_n 0) 1 16), (16, qx (.getfield 51) 3 19 12 13 0), (19, qe (.imul) 1 20)]), (35, [(20, qe (.iload_n 1) 1 21), (21, qe (.iadd) 1 22), (22, qe (.iaload) 1 23), (23, qe (.iadd) 1 24), (24, qe (.istore_n 3) 1 25), (25, qe (.iload_n 3) 1 26), (26, qw (.sipush 1600) 3 29 1600), (29, qe (.aload_n 0) 1 30), (30, qx (.getfield 51) 3 33 12 13 0), (33, qe (.imul) 1 34), (34, qe (.aload_n 0) 1 35), (35, qx (.getfield 81) 3 38 12 23 2)]), (55, [(38, qw (.iconst 3) 1 39 3), (39, qe (.aload_n 0) 1 40), (40, qx (.getfield 51) 3 43 12 13 0), (43, qe (.imul) 1 44), (44, qe (.iload_n 1) 1 45), (45, qe (.iadd) 1 46), (46, qe (.iaload) 1 47), (47, qe (.iadd) 1 48), (48, qx (.if_icmp .ge 179) 3 51 227 0 0), (51, qe (.aload_n 0) 1 52), (52, qx (.getfield 84) 3 55 12 24 2), (55, qe (.iload_n 3) 1 56)]), (77, [(56, qe (.iaload) 1 57), (57, qe (.istore 4) 2 59), (59, qe (.iload 4) 2 61), (61, qw (.bipush 30) 2 63 30), (63, qx (.if_icmp .gt 49) 3 66 112 0 0), (66, qe (.aload_n 0) 1 67), (67, qx (.getfield 180) 3 70 12 55 2), (70, qe (.iload_n 2) 1 71), (71, qe (.iload 4) 2 73), (73, qx (.ifCond .ne 13) 3 76 86 0 0), (76, qe (.aload_n 0) 1 77), (77, qx (.getfield 87) 3 80 12 25 2)]), (101, [(80, qe (.iload_n 3) 1 81), (81, qe (.iaload) 1 82), (82, qe (.i2l) 1 83), (83, qx (.goto 22) 3 86 105 0 0), (86, qe (.iload 4) 2 88), (88, qw (.bipush 30) 2 90 30), (90, qx (.if_icmp .ne 7) 3 93 97 0 0), (93, ql (.lconst 1) 1 94 1), (94, qx (.goto 11) 3 97 105 0 0), (97, qe (.aload_n 0) 1 98), (98, qx (.getfield 183) 3 101 12 56 2), (101, qe (.iload 4) 2 103)]), (124, [(103, qe (.iaload) 1 104), (104, qe (.i2l) 1 105), (105, qe (.lastore) 1 106), (106, qw (.iinc 2 1) 3 109 1), (109, qx (.goto 112) 3 112 221 0 0), (112, qe (.iload 4) 2 114), (114, qw (.bipush 43) 2 116 43), (116, qx (.if_icmp .ne 24) 3 119 140 0 0), (119, qe (.aload_n 0) 1 120), (120, qx (.getfield 180) 3 123 12 55 2), (123, qe (.iload_n 2) 1 124), (124, qw (.iconst 1) 1 125 1)]), (140, [(125, qe (.isub) 1 126), (126, ql (.lconst 1) 1 127 1), (127, qe (.aload_n 0) 1 128), (128, qx (.getfield 180) 3 131 12 55 2), (131, qe (.iload_n 2) 1 132), (132, qw (.iconst 1) 1 133 1), (133, qe (.isub) 1 134), (134, qe (.laload) 1 135), (135, qe (.lsub) 1 136), (136, qe (.lastore) 1 137), (137, qx (.goto 84) 3 140 221 0 0), (140, qe (.iload 4) 2 142)]), (162, [(142, qw (.bipush 44) 2 144 44), (144, qx (.if_icmp .ne 47) 3 147 191 0 0), (147, qw (.iinc 2 (-2)) 3 150 (-2)), (150, qe (.aload_n 0) 1 151), (151, qx (.getfield 180) 3 154 12 55 2), (154, qe (.iload_n 2) 1 155), (155, qw (.iconst 1) 1 156 1), (156, qe (.isub) 1 157), (157, qe (.aload_n 0) 1 158), (158, qx (.getfield 180) 3 161 12 55 2), (161, qe (.iload_n 2) 1 162), (162, qw (.iconst 1) 1 163 1)]), (180, [(163, qe (.isub) 1 164), (164, qe (.laload) 1 165), (165, ql (.lconst 1) 1 166 1), (166, qe (.lcmp) 1 167), (167, qx (.ifCond .ne 12) 3 170 179 0 0), (170, qe (.aload_n 0) 1 171), (171, qx (.getfield 180) 3 174 12 55 2), (174, qe (.iload_n 2) 1 175), (175, qe (.laload) 1 176), (176, qx (.goto 11) 3 179 187 0 0), (179, qe (.aload_n 0) 1 180), (180, qx (.getfield 180) 3 183 12 55 2)]), (200, [(183, qe (.iload_n 2) 1 184), (184, qw (.iconst 1) 1 185 1), (185, qe (.iadd) 1 186), (186, qe (.laload) 1 187), (187, qe (.lastore) 1 188), (188, qx (.goto 33) 3 191 221 0 0), (191, qw (.iinc 2 (-1)) 3 194 (-1)), (194, qe (.aload_n 0) 1 195), (195, qx (.getfield 180) 3 198 12 55 2), (198, qe (.iload_n 2) 1 199), (199, qw (.iconst 1) 1 200 1), (200, qe (.isub) 1 201)]), (217, [(201, qe (.iload 4) 2 203), (203, qe (.aload_n 0) 1 204), (204, qx (.getfield 180) 3 207 12 55 2), (207, qe (.iload_n 2) 1 208), (208, qw (.iconst 1) 1 209 1), (209, qe (.isub) 1 210), (210, qe (.laload) 1 211), (211, qe (.aload_n 0) 1 212), (212, qx (.getfield 180) 3 215 12 55 2), (215, qe (.iload_n 2) 1 216), (216, qe (.laload) 1 217), (217, qx (.invokestatic 403) 3 220 220 3 0)]), (233, [(220, qe (.lastore) 1 221), (221, qw (.iinc 3 1) 3 224 1), (224, qx (.goto (-199)) 3 227 25 0 0), (227, qe (.aload_n 0) 1 228), (228, qx (.getfield 180) 3 231 12 55 2), (231, qw (.iconst 0) 1 232 0), (232, qe (.laload) 1 233), (233, qe (.lreturn) 1 234)])]
noncomputable def mt_219 : pj_T := ((⟨"PegCoatsModel", "reckons", "(I)J"⟩, prog_14_method_53_code, 5, (some .long)), (12, false), mc_219)
set_option maxRecDepth 100000 in
/-- 220: PegCoatsModel.two(IJJ)J -/
noncomputable def mc_220 : pj_M := [(73, [(0, qe (.iload_n 0) 1 1), (1, qs (.tableswitch 176 31 41 #[59, 66, 73, 80, 89, 112, 124, 136, 148, 160, 172]) 59 60 177 [(31, 60), (32, 67), (33, 74), (34, 81), (35, 90), (36, 113), (37, 125), (38, 137), (39, 149), (40, 161), (41, 173)]), (60, qe (.lload_n 1) 1 61), (61, qe (.lload_n 3) 1 62), (62, qe (.ladd) 1 63), (63, qx (.invokestatic 395) 3 66 221 1 0), (66, qe (.lreturn) 1 67), (67, qe (.lload_n 1) 1 68), (68, qe (.lload_n 3) 1 69), (69, qe (.lsub) 1 70), (70, qx (.invokestatic 395) 3 73 221 1 0), (73, qe (.lreturn) 1 74)]), (91, [(74, qe (.lload_n 1) 1 75), (75, qe (.lload_n 3) 1 76), (76, qe (.lmul) 1 77), (77, qx (.invokestatic 395) 3 80 221 1 0), (80, qe (.lreturn) 1 81), (81, qe (.lload_n 1) 1 82), (82, qe (.lload_n 3) 1 83), (83, qx (.invokestatic 399) 3 86 222 2 0), (86, qx (.invokestatic 395) 3 89 221 1 0), (89, qe (.lreturn) 1 90), (90, qe (.lload_n 3) 1 91), (91, ql (.lconst 0) 1 92 0)]), (109, [(92, qe (.lcmp) 1 93), (93, qx (.ifCond .ne 7) 3 96 100 0 0), (96, ql (.lconst 0) 1 97 0), (97, qx (.goto 15) 3 100 112 0 0), (100, qe (.lload_n 1) 1 101), (101, qe (.lload_n 3) 1 102), (102, qe (.lload_n 1) 1 103), (103, qe (.lload_n 3) 1 104), (104, qx (.invokestatic 399) 3 107 222 2 0), (107, qe (.lmul) 1 108), (108, qe (.lsub) 1 109), (109, qx (.invokestatic 395) 3 112 221 1 0)]), (127, [(112, qe (.lreturn) 1 113), (113, qe (.lload_n 1) 1 114), (114, qe (.lload_n 3) 1 115), (115, qe (.lcmp) 1 116), (116, qx (.ifCond .ge 7) 3 119 123 0 0), (119, qe (.lload_n 1) 1 120), (120, qx (.goto 4) 3 123 124 0 0), (123, qe (.lload_n 3) 1 124), (124, qe (.lreturn) 1 125), (125, qe (.lload_n 1) 1 126), (126, qe (.lload_n 3) 1 127), (127, qe (.lcmp) 1 128)]), (147, [(128, qx (.ifCond .le 7) 3 131 135 0 0), (131, qe (.lload_n 1) 1 132), (132, qx (.goto 4) 3 135 136 0 0), (135, qe (.lload_n 3) 1 136), (136, qe (.lreturn) 1 137), (137, qe (.lload_n 1) 1 138), (138, qe (.lload_n 3) 1 139), (139, qe (.lcmp) 1 140), (140, qx (.ifCond .ge 7) 3 143 147 0 0), (143, ql (.lconst 1) 1 144 1), (144, qx (.goto 4) 3 147 148 0 0), (147, ql (.lconst 0) 1 148 0)]), (163, [(148, qe (.lreturn) 1 149), (149, qe (.lload_n 1) 1 150), (150, qe (.lload_n 3) 1 151), (151, qe (.lcmp) 1 152), (152, qx (.ifCond .le 7) 3 155 159 0 0), (155, ql (.lconst 1) 1 156 1), (156, qx (.goto 4) 3 159 160 0 0), (159, ql (.lconst 0) 1 160 0), (160, qe (.lreturn) 1 161), (161, qe (.lload_n 1) 1 162), (162, qe (.lload_n 3) 1 163), (163, qe (.lcmp) 1 164)]), (179, [(164, qx (.ifCond .ne 7) 3 167 171 0 0), (167, ql (.lconst 1) 1 168 1), (168, qx (.goto 4) 3 171 172 0 0), (171, ql (.lconst 0) 1 172 0), (172, qe (.lreturn) 1 173), (173, qe (.lload_n 1) 1 174), (174, qe (.lload_n 3) 1 175), (175, qe (.land) 1 176), (176, qe (.lreturn) 1 177), (177, qe (.lload_n 1) 1 178), (178, qe (.lload_n 3) 1 179), (179, qe (.lor) 1 180)]), (180, [(180, qe (.lreturn) 1 181)])]
noncomputable def mt_220 : pj_T := ((⟨"PegCoatsModel", "two", "(IJJ)J"⟩, prog_14_method_52_code, 5, (some .long)), (12, false), mc_220)
set_option maxRecDepth 100000 in
/-- 221: PegCoatsModel.within(J)J -/
noncomputable def mc_221 : pj_M := [(25, [(0, qe (.lload_n 0) 1 1), (1, ql (.ldc2_w 391) 3 4 1000000), (4, qe (.lcmp) 1 5), (5, qx (.ifCond .le 9) 3 8 14 0 0), (8, ql (.ldc2_w 391) 3 11 1000000), (11, qx (.goto 18) 3 14 29 0 0), (14, qe (.lload_n 0) 1 15), (15, ql (.ldc2_w 393) 3 18 (-1000000)), (18, qe (.lcmp) 1 19), (19, qx (.ifCond .ge 9) 3 22 28 0 0), (22, ql (.ldc2_w 393) 3 25 (-1000000)), (25, qx (.goto 4) 3 28 29 0 0)]), (29, [(28, qe (.lload_n 0) 1 29), (29, qe (.lreturn) 1 30)])]
noncomputable def mt_221 : pj_T := ((⟨"PegCoatsModel", "within", "(J)J"⟩, prog_14_method_50_code, 2, (some .long)), (12, false), mc_221)
set_option maxRecDepth 100000 in
/-- 222: PegCoatsModel.floor(JJ)J -/
noncomputable def mc_222 : pj_M := [(14, [(0, qe (.lload_n 2) 1 1), (1, ql (.lconst 0) 1 2 0), (2, qe (.lcmp) 1 3), (3, qx (.ifCond .ne 5) 3 6 8 0 0), (6, ql (.lconst 0) 1 7 0), (7, qe (.lreturn) 1 8), (8, qe (.lload_n 0) 1 9), (9, qe (.lload_n 2) 1 10), (10, qe (.ldiv) 1 11), (11, qe (.lstore 4) 2 13), (13, qe (.lload_n 0) 1 14), (14, qe (.lload_n 2) 1 15)]), (32, [(15, qe (.lrem) 1 16), (16, ql (.lconst 0) 1 17 0), (17, qe (.lcmp) 1 18), (18, qx (.ifCond .eq 35) 3 21 53 0 0), (21, qe (.lload_n 0) 1 22), (22, ql (.lconst 0) 1 23 0), (23, qe (.lcmp) 1 24), (24, qx (.ifCond .ge 7) 3 27 31 0 0), (27, qw (.iconst 1) 1 28 1), (28, qx (.goto 4) 3 31 32 0 0), (31, qw (.iconst 0) 1 32 0), (32, qe (.lload_n 2) 1 33)]), (53, [(33, ql (.lconst 0) 1 34 0), (34, qe (.lcmp) 1 35), (35, qx (.ifCond .ge 7) 3 38 42 0 0), (38, qw (.iconst 1) 1 39 1), (39, qx (.goto 4) 3 42 43 0 0), (42, qw (.iconst 0) 1 43 0), (43, qx (.if_icmp .eq 10) 3 46 53 0 0), (46, qe (.lload 4) 2 48), (48, ql (.lconst 1) 1 49 1), (49, qe (.lsub) 1 50), (50, qx (.goto 5) 3 53 55 0 0), (53, qe (.lload 4) 2 55)]), (55, [(55, qe (.lreturn) 1 56)])]
noncomputable def mt_222 : pj_T := ((⟨"PegCoatsModel", "floor", "(JJ)J"⟩, prog_14_method_51_code, 6, (some .long)), (12, false), mc_222)
set_option maxRecDepth 100000 in
/-- 223: PegCoatsModel.later(II)I -/
noncomputable def mc_223 : pj_M := [(20, [(0, qe (.aload_n 0) 1 1), (1, qe (.iload_n 1) 1 2), (2, qx (.invokevirtual 450) 3 5 212 2 12), (5, qx (.ifCond .eq 14) 3 8 19 0 0), (8, qe (.aload_n 0) 1 9), (9, qe (.iload_n 2) 1 10), (10, qw (.iconst 0) 1 11 0), (11, qw (.bipush 40) 2 13 40), (13, qx (.invokevirtual 467) 3 16 224 4 12), (16, qx (.ifCond .ne 5) 3 19 21 0 0), (19, qw (.iconst (-1)) 1 20 (-1)), (20, qe (.ireturn) 1 21)]), (35, [(21, qe (.aload_n 0) 1 22), (22, qe (.iload_n 2) 1 23), (23, qx (.invokevirtual 470) 3 26 225 2 12), (26, qe (.aload_n 0) 1 27), (27, qx (.getfield 156) 3 30 12 47 2), (30, qw (.bipush 7) 2 32 7), (32, qe (.iload_n 1) 1 33), (33, qe (.iadd) 1 34), (34, qe (.iaload) 1 35), (35, qe (.ireturn) 1 36)])]
noncomputable def mt_223 : pj_T := ((⟨"PegCoatsModel", "later", "(II)I"⟩, prog_14_method_76_code, 3, (some .int)), (12, false), mc_223)
set_option maxRecDepth 100000 in
/-- 224: PegCoatsModel.isAhead(III)Z -/
noncomputable def mc_224 : pj_M := [(19, [(0, qe (.iload_n 1) 1 1), (1, qe (.iload_n 2) 1 2), (2, qe (.iload_n 3) 1 3), (3, qx (.invokestatic 288) 3 6 179 3 0), (6, qx (.ifCond .eq 21) 3 9 27 0 0), (9, qe (.aload_n 0) 1 10), (10, qx (.getfield 141) 3 13 12 42 2), (13, qw (.iconst 0) 1 14 0), (14, qe (.iaload) 1 15), (15, qw (.sipush 999) 3 18 999), (18, qe (.iload_n 1) 1 19), (19, qe (.isub) 1 20)]), (28, [(20, qx (.if_icmp .gt 7) 3 23 27 0 0), (23, qw (.iconst 1) 1 24 1), (24, qx (.goto 4) 3 27 28 0 0), (27, qw (.iconst 0) 1 28 0), (28, qe (.ireturn) 1 29)])]
noncomputable def mt_224 : pj_T := ((⟨"PegCoatsModel", "isAhead", "(III)Z"⟩, prog_14_method_74_code, 4, (some .boolean)), (12, true), mc_224)
set_option maxRecDepth 100000 in
/-- 225: PegCoatsModel.tries(I)V -/
noncomputable def mc_225 : pj_M := [(15, [(0, qe (.aload_n 0) 1 1), (1, qw (.iconst 1) 1 2 1), (2, qw (.iconst 0) 1 3 0), (3, qx (.invokevirtual 388) 3 6 204 3 12), (6, qw (.iconst 0) 1 7 0), (7, qe (.istore_n 2) 1 8), (8, qe (.iload_n 2) 1 9), (9, qe (.iload_n 1) 1 10), (10, qx (.if_icmp .ge 16) 3 13 26 0 0), (13, qe (.aload_n 0) 1 14), (14, qw (.iconst 1) 1 15 1), (15, qw (.iconst (-1)) 1 16 (-1))]), (26, [(16, qx (.invokevirtual 464) 3 19 226 3 12), (19, qe (.pop) 1 20), (20, qw (.iinc 2 1) 3 23 1), (23, qx (.goto (-15)) 3 26 8 0 0), (26, qe (.return_) 1 27)])]
noncomputable def mt_225 : pj_T := ((⟨"PegCoatsModel", "tries", "(I)V"⟩, prog_14_method_75_code, 3, none), (12, false), mc_225)
set_option maxRecDepth 100000 in
/-- 226: PegCoatsModel.ticks(II)I -/
noncomputable def mc_226 : pj_M := [(18, [(0, qw (.iconst 0) 1 1 0), (1, qe (.istore_n 3) 1 2), (2, qw (.iconst 0) 1 3 0), (3, qe (.istore 4) 2 5), (5, qw (.iconst 0) 1 6 0), (6, qe (.istore 5) 2 8), (8, qe (.iload 5) 2 10), (10, qe (.aload_n 0) 1 11), (11, qx (.getfield 63) 3 14 12 17 2), (14, qe (.aload_n 0) 1 15), (15, qx (.getfield 51) 3 18 12 13 0), (18, qe (.iaload) 1 19)]), (42, [(19, qx (.if_icmp .ge 26) 3 22 45 0 0), (22, qe (.aload_n 0) 1 23), (23, qe (.iload_n 1) 1 24), (24, qe (.iload 5) 2 26), (26, qx (.invokevirtual 430) 3 29 206 3 12), (29, qx (.ifCond .eq 10) 3 32 39 0 0), (32, qe (.aload_n 0) 1 33), (33, qe (.iload_n 1) 1 34), (34, qe (.iload 5) 2 36), (36, qx (.invokevirtual 433) 3 39 227 3 12), (39, qw (.iinc 5 1) 3 42 1), (42, qx (.goto (-34)) 3 45 8 0 0)]), (64, [(45, qw (.iconst 0) 1 46 0), (46, qe (.istore 5) 2 48), (48, qe (.iload 5) 2 50), (50, qe (.aload_n 0) 1 51), (51, qx (.getfield 63) 3 54 12 17 2), (54, qe (.aload_n 0) 1 55), (55, qx (.getfield 51) 3 58 12 13 0), (58, qe (.iaload) 1 59), (59, qx (.if_icmp .ge 61) 3 62 120 0 0), (62, qe (.aload_n 0) 1 63), (63, qe (.iload_n 1) 1 64), (64, qe (.iload 5) 2 66)]), (90, [(66, qx (.invokevirtual 430) 3 69 206 3 12), (69, qx (.ifCond .eq 45) 3 72 114 0 0), (72, qe (.aload_n 0) 1 73), (73, qe (.iload_n 1) 1 74), (74, qe (.iload 5) 2 76), (76, qx (.invokevirtual 436) 3 79 228 3 12), (79, qx (.ifCond .ne 6) 3 82 85 0 0), (82, qx (.goto 32) 3 85 114 0 0), (85, qe (.aload_n 0) 1 86), (86, qx (.getfield 162) 3 89 12 49 2), (89, qe (.iload_n 1) 1 90), (90, qe (.dup2) 1 91)]), (106, [(91, qe (.iaload) 1 92), (92, qw (.iconst 1) 1 93 1), (93, qe (.iload 5) 2 95), (95, qe (.ishl) 1 96), (96, qe (.ior) 1 97), (97, qe (.iastore) 1 98), (98, qe (.aload_n 0) 1 99), (99, qx (.getfield 156) 3 102 12 47 2), (102, qw (.bipush 7) 2 104 7), (104, qe (.iload_n 1) 1 105), (105, qe (.imul) 1 106), (106, qe (.iload 5) 2 108)]), (129, [(108, qe (.iadd) 1 109), (109, qw (.iconst (-1)) 1 110 (-1)), (110, qe (.iastore) 1 111), (111, qw (.iinc 3 1) 3 114 1), (114, qw (.iinc 5 1) 3 117 1), (117, qx (.goto (-69)) 3 120 48 0 0), (120, qw (.iconst 0) 1 121 0), (121, qe (.istore 5) 2 123), (123, qe (.iload 5) 2 125), (125, qe (.aload_n 0) 1 126), (126, qx (.getfield 63) 3 129 12 17 2), (129, qe (.aload_n 0) 1 130)]), (153, [(130, qx (.getfield 51) 3 133 12 13 0), (133, qe (.iaload) 1 134), (134, qx (.if_icmp .ge 100) 3 137 234 0 0), (137, qe (.aload_n 0) 1 138), (138, qe (.iload_n 1) 1 139), (139, qe (.iload 5) 2 141), (141, qx (.invokevirtual 430) 3 144 206 3 12), (144, qx (.ifCond .eq 84) 3 147 228 0 0), (147, qe (.aload_n 0) 1 148), (148, qx (.getfield 156) 3 151 12 47 2), (151, qw (.bipush 7) 2 153 7), (153, qe (.iload_n 1) 1 154)]), (173, [(154, qe (.imul) 1 155), (155, qe (.iload 5) 2 157), (157, qe (.iadd) 1 158), (158, qe (.iaload) 1 159), (159, qw (.iconst (-1)) 1 160 (-1)), (160, qx (.if_icmp .ne 68) 3 163 228 0 0), (163, qe (.iload 5) 2 165), (165, qe (.iload_n 2) 1 166), (166, qx (.if_icmp .ne 6) 3 169 172 0 0), (169, qx (.goto 59) 3 172 228 0 0), (172, qe (.aload_n 0) 1 173), (173, qe (.iload_n 1) 1 174)]), (192, [(174, qe (.aload_n 0) 1 175), (175, qx (.getfield 150) 3 178 12 45 2), (178, qw (.bipush 7) 2 180 7), (180, qe (.iload_n 1) 1 181), (181, qe (.imul) 1 182), (182, qe (.iload 5) 2 184), (184, qe (.iadd) 1 185), (185, qe (.iaload) 1 186), (186, qe (.aload_n 0) 1 187), (187, qx (.getfield 153) 3 190 12 46 2), (190, qw (.bipush 7) 2 192 7), (192, qe (.iload_n 1) 1 193)]), (212, [(193, qe (.imul) 1 194), (194, qe (.iload 5) 2 196), (196, qe (.iadd) 1 197), (197, qe (.iaload) 1 198), (198, qx (.invokevirtual 439) 3 201 229 4 12), (201, qe (.istore 6) 2 203), (203, qe (.aload_n 0) 1 204), (204, qe (.iload_n 1) 1 205), (205, qe (.iload 5) 2 207), (207, qe (.iload 6) 2 209), (209, qx (.invokevirtual 443) 3 212 230 4 12), (212, qe (.iload 4) 2 214)]), (235, [(214, qe (.iload 6) 2 216), (216, qw (.iconst (-1)) 1 217 (-1)), (217, qx (.if_icmp .ne 7) 3 220 224 0 0), (220, qw (.iconst 0) 1 221 0), (221, qx (.goto 4) 3 224 225 0 0), (224, qw (.iconst 1) 1 225 1), (225, qe (.iadd) 1 226), (226, qe (.istore 4) 2 228), (228, qw (.iinc 5 1) 3 231 1), (231, qx (.goto (-108)) 3 234 123 0 0), (234, qw (.iconst 0) 1 235 0), (235, qe (.istore 5) 2 237)]), (258, [(237, qe (.iload 5) 2 239), (239, qe (.aload_n 0) 1 240), (240, qx (.getfield 63) 3 243 12 17 2), (243, qe (.aload_n 0) 1 244), (244, qx (.getfield 51) 3 247 12 13 0), (247, qe (.iaload) 1 248), (248, qx (.if_icmp .ge 96) 3 251 344 0 0), (251, qe (.aload_n 0) 1 252), (252, qx (.getfield 156) 3 255 12 47 2), (255, qw (.bipush 7) 2 257 7), (257, qe (.iload_n 1) 1 258), (258, qe (.imul) 1 259)]), (278, [(259, qe (.iload 5) 2 261), (261, qe (.iadd) 1 262), (262, qe (.iaload) 1 263), (263, qw (.iconst (-1)) 1 264 (-1)), (264, qx (.if_icmp .ne 6) 3 267 270 0 0), (267, qx (.goto 71) 3 270 338 0 0), (270, qe (.aload_n 0) 1 271), (271, qx (.getfield 159) 3 274 12 48 2), (274, qw (.bipush 7) 2 276 7), (276, qe (.iload_n 1) 1 277), (277, qe (.imul) 1 278), (278, qe (.iload 5) 2 280)]), (299, [(280, qe (.iadd) 1 281), (281, qe (.iaload) 1 282), (282, qe (.aload_n 0) 1 283), (283, qx (.getfield 60) 3 286 12 16 2), (286, qw (.bipush 8) 2 288 8), (288, qe (.aload_n 0) 1 289), (289, qx (.getfield 51) 3 292 12 13 0), (292, qe (.imul) 1 293), (293, qe (.aload_n 0) 1 294), (294, qx (.getfield 156) 3 297 12 47 2), (297, qw (.bipush 7) 2 299 7), (299, qe (.iload_n 1) 1 300)]), (316, [(300, qe (.imul) 1 301), (301, qe (.iload 5) 2 303), (303, qe (.iadd) 1 304), (304, qe (.iaload) 1 305), (305, qe (.iadd) 1 306), (306, qe (.iaload) 1 307), (307, qe (.iadd) 1 308), (308, qe (.istore 6) 2 310), (310, qe (.aload_n 0) 1 311), (311, qx (.getfield 159) 3 314 12 48 2), (314, qw (.bipush 7) 2 316 7), (316, qe (.iload_n 1) 1 317)]), (341, [(317, qe (.imul) 1 318), (318, qe (.iload 5) 2 320), (320, qe (.iadd) 1 321), (321, qe (.iload 6) 2 323), (323, qw (.sipush 9999) 3 326 9999), (326, qx (.if_icmp .le 9) 3 329 335 0 0), (329, qw (.sipush 9999) 3 332 9999), (332, qx (.goto 5) 3 335 337 0 0), (335, qe (.iload 6) 2 337), (337, qe (.iastore) 1 338), (338, qw (.iinc 5 1) 3 341 1), (341, qx (.goto (-104)) 3 344 237 0 0)]), (360, [(344, qe (.aload_n 0) 1 345), (345, qe (.iload_n 1) 1 346), (346, qe (.iload 4) 2 348), (348, qe (.iload_n 3) 1 349), (349, qx (.invokevirtual 447) 3 352 231 4 12), (352, qe (.aload_n 0) 1 353), (353, qx (.getfield 141) 3 356 12 42 2), (356, qe (.iload_n 1) 1 357), (357, qe (.dup2) 1 358), (358, qe (.iaload) 1 359), (359, qw (.iconst 1) 1 360 1), (360, qe (.iadd) 1 361)]), (364, [(361, qe (.iastore) 1 362), (362, qe (.iload 4) 2 364), (364, qe (.ireturn) 1 365)])]
noncomputable def mt_226 : pj_T := ((⟨"PegCoatsModel", "ticks", "(II)I"⟩, prog_14_method_65_code, 7, (some .int)), (12, false), mc_226)
set_option maxRecDepth 100000 in
/-- 227: PegCoatsModel.grow(II)V -/
noncomputable def mc_227 : pj_M := [(16, [(0, qe (.aload_n 0) 1 1), (1, qx (.getfield 183) 3 4 12 56 2), (4, qw (.iconst 1) 1 5 1), (5, qe (.aload_n 0) 1 6), (6, qx (.getfield 150) 3 9 12 45 2), (9, qw (.bipush 7) 2 11 7), (11, qe (.iload_n 1) 1 12), (12, qe (.imul) 1 13), (13, qe (.iload_n 2) 1 14), (14, qe (.iadd) 1 15), (15, qe (.iaload) 1 16), (16, qe (.iastore) 1 17)]), (33, [(17, qe (.aload_n 0) 1 18), (18, qx (.getfield 183) 3 21 12 56 2), (21, qw (.iconst 2) 1 22 2), (22, qe (.aload_n 0) 1 23), (23, qx (.getfield 153) 3 26 12 46 2), (26, qw (.bipush 7) 2 28 7), (28, qe (.iload_n 1) 1 29), (29, qe (.imul) 1 30), (30, qe (.iload_n 2) 1 31), (31, qe (.iadd) 1 32), (32, qe (.iaload) 1 33), (33, qe (.iastore) 1 34)]), (51, [(34, qe (.aload_n 0) 1 35), (35, qx (.getfield 183) 3 38 12 56 2), (38, qw (.iconst 3) 1 39 3), (39, qe (.aload_n 0) 1 40), (40, qx (.getfield 141) 3 43 12 42 2), (43, qe (.iload_n 1) 1 44), (44, qe (.iaload) 1 45), (45, qe (.iastore) 1 46), (46, qe (.aload_n 0) 1 47), (47, qw (.iconst 1) 1 48 1), (48, qx (.invokevirtual 414) 3 51 218 2 12), (51, qx (.ifCond .eq 45) 3 54 96 0 0)]), (70, [(54, qe (.aload_n 0) 1 55), (55, qw (.iconst 1) 1 56 1), (56, qx (.invokevirtual 417) 3 59 219 2 12), (59, qe (.lstore_n 3) 1 60), (60, qe (.aload_n 0) 1 61), (61, qx (.getfield 150) 3 64 12 45 2), (64, qw (.bipush 7) 2 66 7), (66, qe (.iload_n 1) 1 67), (67, qe (.imul) 1 68), (68, qe (.iload_n 2) 1 69), (69, qe (.iadd) 1 70), (70, qe (.lload_n 3) 1 71)]), (93, [(71, ql (.lconst 1) 1 72 1), (72, qe (.lcmp) 1 73), (73, qx (.ifCond .ge 7) 3 76 80 0 0), (76, qw (.iconst 1) 1 77 1), (77, qx (.goto 18) 3 80 95 0 0), (80, qe (.lload_n 3) 1 81), (81, ql (.ldc2_w 425) 3 84 99), (84, qe (.lcmp) 1 85), (85, qx (.ifCond .le 8) 3 88 93 0 0), (88, qw (.bipush 99) 2 90 99), (90, qx (.goto 5) 3 93 95 0 0), (93, qe (.lload_n 3) 1 94)]), (109, [(94, qe (.l2i) 1 95), (95, qe (.iastore) 1 96), (96, qe (.aload_n 0) 1 97), (97, qx (.getfield 153) 3 100 12 46 2), (100, qw (.bipush 7) 2 102 7), (102, qe (.iload_n 1) 1 103), (103, qe (.imul) 1 104), (104, qe (.iload_n 2) 1 105), (105, qe (.iadd) 1 106), (106, qe (.iaload) 1 107), (107, qw (.bipush 99) 2 109 99), (109, qx (.if_icmp .ge 18) 3 112 127 0 0)]), (126, [(112, qe (.aload_n 0) 1 113), (113, qx (.getfield 153) 3 116 12 46 2), (116, qw (.bipush 7) 2 118 7), (118, qe (.iload_n 1) 1 119), (119, qe (.imul) 1 120), (120, qe (.iload_n 2) 1 121), (121, qe (.iadd) 1 122), (122, qe (.dup2) 1 123), (123, qe (.iaload) 1 124), (124, qw (.iconst 1) 1 125 1), (125, qe (.iadd) 1 126), (126, qe (.iastore) 1 127)]), (127, [(127, qe (.return_) 1 128)])]
noncomputable def mt_227 : pj_T := ((⟨"PegCoatsModel", "grow", "(II)V"⟩, prog_14_method_60_code, 5, none), (12, false), mc_227)
end
section
set_option maxRecDepth 100000 in
/-- 228: PegCoatsModel.isLeaving(II)Z -/
noncomputable def mc_228 : pj_M := [(19, [(0, qe (.aload_n 0) 1 1), (1, qw (.iconst 2) 1 2 2), (2, qx (.invokevirtual 414) 3 5 218 2 12), (5, qx (.ifCond .ne 5) 3 8 10 0 0), (8, qw (.iconst 0) 1 9 0), (9, qe (.ireturn) 1 10), (10, qe (.aload_n 0) 1 11), (11, qx (.getfield 183) 3 14 12 56 2), (14, qw (.iconst 1) 1 15 1), (15, qe (.aload_n 0) 1 16), (16, qx (.getfield 150) 3 19 12 45 2), (19, qw (.bipush 7) 2 21 7)]), (36, [(21, qe (.iload_n 1) 1 22), (22, qe (.imul) 1 23), (23, qe (.iload_n 2) 1 24), (24, qe (.iadd) 1 25), (25, qe (.iaload) 1 26), (26, qe (.iastore) 1 27), (27, qe (.aload_n 0) 1 28), (28, qx (.getfield 183) 3 31 12 56 2), (31, qw (.iconst 2) 1 32 2), (32, qe (.aload_n 0) 1 33), (33, qx (.getfield 153) 3 36 12 46 2), (36, qw (.bipush 7) 2 38 7)]), (53, [(38, qe (.iload_n 1) 1 39), (39, qe (.imul) 1 40), (40, qe (.iload_n 2) 1 41), (41, qe (.iadd) 1 42), (42, qe (.iaload) 1 43), (43, qe (.iastore) 1 44), (44, qe (.aload_n 0) 1 45), (45, qx (.getfield 183) 3 48 12 56 2), (48, qw (.iconst 3) 1 49 3), (49, qe (.aload_n 0) 1 50), (50, qx (.getfield 141) 3 53 12 42 2), (53, qe (.iload_n 1) 1 54)]), (71, [(54, qe (.iaload) 1 55), (55, qe (.iastore) 1 56), (56, qe (.aload_n 0) 1 57), (57, qx (.getfield 183) 3 60 12 56 2), (60, qw (.bipush 7) 2 62 7), (62, qe (.aload_n 0) 1 63), (63, qx (.getfield 159) 3 66 12 48 2), (66, qw (.bipush 7) 2 68 7), (68, qe (.iload_n 1) 1 69), (69, qe (.imul) 1 70), (70, qe (.iload_n 2) 1 71), (71, qe (.iadd) 1 72)]), (89, [(72, qe (.iaload) 1 73), (73, qe (.iastore) 1 74), (74, qe (.aload_n 0) 1 75), (75, qx (.getfield 183) 3 78 12 56 2), (78, qw (.bipush 8) 2 80 8), (80, qe (.aload_n 0) 1 81), (81, qx (.getfield 156) 3 84 12 47 2), (84, qw (.bipush 7) 2 86 7), (86, qe (.iload_n 1) 1 87), (87, qe (.imul) 1 88), (88, qe (.iload_n 2) 1 89), (89, qe (.iadd) 1 90)]), (107, [(90, qe (.iaload) 1 91), (91, qw (.iconst (-1)) 1 92 (-1)), (92, qx (.if_icmp .ne 7) 3 95 99 0 0), (95, qw (.iconst 0) 1 96 0), (96, qx (.goto 4) 3 99 100 0 0), (99, qw (.iconst 1) 1 100 1), (100, qe (.iastore) 1 101), (101, qe (.aload_n 0) 1 102), (102, qw (.iconst 2) 1 103 2), (103, qx (.invokevirtual 417) 3 106 219 2 12), (106, ql (.lconst 1) 1 107 1), (107, qe (.lcmp) 1 108)]), (116, [(108, qx (.ifCond .ne 7) 3 111 115 0 0), (111, qw (.iconst 1) 1 112 1), (112, qx (.goto 4) 3 115 116 0 0), (115, qw (.iconst 0) 1 116 0), (116, qe (.ireturn) 1 117)])]
noncomputable def mt_228 : pj_T := ((⟨"PegCoatsModel", "isLeaving", "(II)Z"⟩, prog_14_method_61_code, 3, (some .boolean)), (12, true), mc_228)
set_option maxRecDepth 100000 in
/-- 229: PegCoatsModel.warmest(III)I -/
noncomputable def mc_229 : pj_M := [(19, [(0, qw (.iconst (-1)) 1 1 (-1)), (1, qe (.istore 4) 2 3), (3, ql (.lconst 0) 1 4 0), (4, qe (.lstore 5) 2 6), (6, qw (.iconst 0) 1 7 0), (7, qe (.istore 7) 2 9), (9, qe (.iload 7) 2 11), (11, qe (.aload_n 0) 1 12), (12, qx (.getfield 54) 3 15 12 14 2), (15, qe (.aload_n 0) 1 16), (16, qx (.getfield 51) 3 19 12 13 0), (19, qe (.iaload) 1 20)]), (41, [(20, qx (.if_icmp .ge 52) 3 23 72 0 0), (23, qe (.aload_n 0) 1 24), (24, qe (.iload_n 1) 1 25), (25, qe (.iload 7) 2 27), (27, qx (.invokevirtual 427) 3 30 208 3 12), (30, qx (.ifCond .ne 6) 3 33 36 0 0), (33, qx (.goto 33) 3 36 66 0 0), (36, qe (.aload_n 0) 1 37), (37, qe (.iload_n 1) 1 38), (38, qe (.iload 7) 2 40), (40, qe (.iload_n 2) 1 41), (41, qe (.iload_n 3) 1 42)]), (66, [(42, qx (.invokevirtual 421) 3 45 217 5 12), (45, qe (.lstore 8) 2 47), (47, qe (.lload 8) 2 49), (49, qe (.lload 5) 2 51), (51, qe (.lcmp) 1 52), (52, qx (.ifCond .gt 6) 3 55 58 0 0), (55, qx (.goto 11) 3 58 66 0 0), (58, qe (.lload 8) 2 60), (60, qe (.lstore 5) 2 62), (62, qe (.iload 7) 2 64), (64, qe (.istore 4) 2 66), (66, qw (.iinc 7 1) 3 69 1)]), (74, [(69, qx (.goto (-60)) 3 72 9 0 0), (72, qe (.iload 4) 2 74), (74, qe (.ireturn) 1 75)])]
noncomputable def mt_229 : pj_T := ((⟨"PegCoatsModel", "warmest", "(III)I"⟩, prog_14_method_63_code, 10, (some .int)), (12, false), mc_229)
set_option maxRecDepth 100000 in
/-- 230: PegCoatsModel.puts(III)V -/
noncomputable def mc_230 : pj_M := [(16, [(0, qe (.iload_n 3) 1 1), (1, qw (.iconst (-1)) 1 2 (-1)), (2, qx (.if_icmp .eq 49) 3 5 51 0 0), (5, qe (.aload_n 0) 1 6), (6, qx (.getfield 156) 3 9 12 47 2), (9, qw (.bipush 7) 2 11 7), (11, qe (.iload_n 1) 1 12), (12, qe (.imul) 1 13), (13, qe (.iload_n 2) 1 14), (14, qe (.iadd) 1 15), (15, qe (.iaload) 1 16), (16, qe (.iload_n 3) 1 17)]), (36, [(17, qx (.if_icmp .eq 34) 3 20 51 0 0), (20, qe (.aload_n 0) 1 21), (21, qx (.getfield 147) 3 24 12 44 2), (24, qw (.bipush 8) 2 26 8), (26, qe (.iload_n 1) 1 27), (27, qe (.imul) 1 28), (28, qe (.iload_n 3) 1 29), (29, qe (.iadd) 1 30), (30, qe (.iaload) 1 31), (31, qw (.bipush 99) 2 33 99), (33, qx (.if_icmp .ge 18) 3 36 51 0 0), (36, qe (.aload_n 0) 1 37)]), (51, [(37, qx (.getfield 147) 3 40 12 44 2), (40, qw (.bipush 8) 2 42 8), (42, qe (.iload_n 1) 1 43), (43, qe (.imul) 1 44), (44, qe (.iload_n 3) 1 45), (45, qe (.iadd) 1 46), (46, qe (.dup2) 1 47), (47, qe (.iaload) 1 48), (48, qw (.iconst 1) 1 49 1), (49, qe (.iadd) 1 50), (50, qe (.iastore) 1 51), (51, qe (.aload_n 0) 1 52)]), (63, [(52, qx (.getfield 156) 3 55 12 47 2), (55, qw (.bipush 7) 2 57 7), (57, qe (.iload_n 1) 1 58), (58, qe (.imul) 1 59), (59, qe (.iload_n 2) 1 60), (60, qe (.iadd) 1 61), (61, qe (.iload_n 3) 1 62), (62, qe (.iastore) 1 63), (63, qe (.return_) 1 64)])]
noncomputable def mt_230 : pj_T := ((⟨"PegCoatsModel", "puts", "(III)V"⟩, prog_14_method_62_code, 4, none), (12, false), mc_230)
set_option maxRecDepth 100000 in
/-- 231: PegCoatsModel.writesDown(III)V -/
noncomputable def mc_231 : pj_M := [(19, [(0, qe (.aload_n 0) 1 1), (1, qx (.getfield 165) 3 4 12 50 2), (4, qe (.iload_n 1) 1 5), (5, qe (.iaload) 1 6), (6, qw (.bipush 40) 2 8 40), (8, qx (.if_icmp .ne 55) 3 11 63 0 0), (11, qw (.bipush 120) 2 13 120), (13, qe (.iload_n 1) 1 14), (14, qe (.imul) 1 15), (15, qe (.istore 4) 2 17), (17, qe (.iload 4) 2 19), (19, qw (.bipush 120) 2 21 120)]), (38, [(21, qe (.iload_n 1) 1 22), (22, qe (.imul) 1 23), (23, qw (.bipush 120) 2 25 120), (25, qe (.iadd) 1 26), (26, qw (.iconst 3) 1 27 3), (27, qe (.isub) 1 28), (28, qx (.if_icmp .ge 25) 3 31 53 0 0), (31, qe (.aload_n 0) 1 32), (32, qx (.getfield 168) 3 35 12 51 2), (35, qe (.iload 4) 2 37), (37, qe (.aload_n 0) 1 38), (38, qx (.getfield 168) 3 41 12 51 2)]), (59, [(41, qe (.iload 4) 2 43), (43, qw (.iconst 3) 1 44 3), (44, qe (.iadd) 1 45), (45, qe (.iaload) 1 46), (46, qe (.iastore) 1 47), (47, qw (.iinc 4 1) 3 50 1), (50, qx (.goto (-33)) 3 53 17 0 0), (53, qe (.aload_n 0) 1 54), (54, qx (.getfield 165) 3 57 12 50 2), (57, qe (.iload_n 1) 1 58), (58, qe (.dup2) 1 59), (59, qe (.iaload) 1 60)]), (74, [(60, qw (.iconst 1) 1 61 1), (61, qe (.isub) 1 62), (62, qe (.iastore) 1 63), (63, qw (.iconst 3) 1 64 3), (64, qw (.bipush 40) 2 66 40), (66, qe (.iload_n 1) 1 67), (67, qe (.imul) 1 68), (68, qe (.aload_n 0) 1 69), (69, qx (.getfield 165) 3 72 12 50 2), (72, qe (.iload_n 1) 1 73), (73, qe (.iaload) 1 74), (74, qe (.iadd) 1 75)]), (92, [(75, qe (.imul) 1 76), (76, qe (.istore 4) 2 78), (78, qe (.aload_n 0) 1 79), (79, qx (.getfield 168) 3 82 12 51 2), (82, qe (.iload 4) 2 84), (84, qe (.aload_n 0) 1 85), (85, qx (.getfield 141) 3 88 12 42 2), (88, qe (.iload_n 1) 1 89), (89, qe (.iaload) 1 90), (90, qe (.iastore) 1 91), (91, qe (.aload_n 0) 1 92), (92, qx (.getfield 168) 3 95 12 51 2)]), (110, [(95, qe (.iload 4) 2 97), (97, qw (.iconst 1) 1 98 1), (98, qe (.iadd) 1 99), (99, qe (.iload_n 2) 1 100), (100, qe (.iastore) 1 101), (101, qe (.aload_n 0) 1 102), (102, qx (.getfield 168) 3 105 12 51 2), (105, qe (.iload 4) 2 107), (107, qw (.iconst 2) 1 108 2), (108, qe (.iadd) 1 109), (109, qe (.iload_n 3) 1 110), (110, qe (.iastore) 1 111)]), (121, [(111, qe (.aload_n 0) 1 112), (112, qx (.getfield 165) 3 115 12 50 2), (115, qe (.iload_n 1) 1 116), (116, qe (.dup2) 1 117), (117, qe (.iaload) 1 118), (118, qw (.iconst 1) 1 119 1), (119, qe (.iadd) 1 120), (120, qe (.iastore) 1 121), (121, qe (.return_) 1 122)])]
noncomputable def mt_231 : pj_T := ((⟨"PegCoatsModel", "writesDown", "(III)V"⟩, prog_14_method_64_code, 5, none), (12, false), mc_231)
set_option maxRecDepth 100000 in
/-- 232: PegCoatsModel.purse(II)I -/
noncomputable def mc_232 : pj_M := [(20, [(0, qe (.aload_n 0) 1 1), (1, qe (.iload_n 1) 1 2), (2, qx (.invokevirtual 450) 3 5 212 2 12), (5, qx (.ifCond .eq 14) 3 8 19 0 0), (8, qe (.aload_n 0) 1 9), (9, qe (.iload_n 2) 1 10), (10, qw (.iconst 0) 1 11 0), (11, qw (.bipush 40) 2 13 40), (13, qx (.invokevirtual 467) 3 16 224 4 12), (16, qx (.ifCond .ne 5) 3 19 21 0 0), (19, qw (.iconst (-1)) 1 20 (-1)), (20, qe (.ireturn) 1 21)]), (35, [(21, qe (.aload_n 0) 1 22), (22, qe (.iload_n 2) 1 23), (23, qx (.invokevirtual 470) 3 26 225 2 12), (26, qe (.aload_n 0) 1 27), (27, qx (.getfield 159) 3 30 12 48 2), (30, qw (.bipush 7) 2 32 7), (32, qe (.iload_n 1) 1 33), (33, qe (.iadd) 1 34), (34, qe (.iaload) 1 35), (35, qe (.ireturn) 1 36)])]
noncomputable def mt_232 : pj_T := ((⟨"PegCoatsModel", "purse", "(II)I"⟩, prog_14_method_77_code, 3, (some .int)), (12, false), mc_232)
set_option maxRecDepth 100000 in
/-- 233: PegCoatsModel.goes(I)I -/
noncomputable def mc_233 : pj_M := [(17, [(0, qe (.aload_n 0) 1 1), (1, qe (.iload_n 1) 1 2), (2, qx (.invokevirtual 473) 3 5 234 2 12), (5, qx (.ifCond .ne 5) 3 8 10 0 0), (8, qw (.iconst (-1)) 1 9 (-1)), (9, qe (.ireturn) 1 10), (10, qe (.aload_n 0) 1 11), (11, qw (.iconst 1) 1 12 1), (12, qw (.iconst 0) 1 13 0), (13, qx (.invokevirtual 388) 3 16 204 3 12), (16, qw (.iconst 0) 1 17 0), (17, qe (.istore_n 2) 1 18)]), (34, [(18, qe (.aload_n 0) 1 19), (19, qe (.iload_n 2) 1 20), (20, qw (.iconst 1) 1 21 1), (21, qe (.iadd) 1 22), (22, qw (.iconst 1) 1 23 1), (23, qw (.bipush 40) 2 25 40), (25, qx (.invokevirtual 467) 3 28 224 4 12), (28, qx (.ifCond .eq 27) 3 31 55 0 0), (31, qe (.aload_n 0) 1 32), (32, qw (.iconst 1) 1 33 1), (33, qw (.iconst (-1)) 1 34 (-1)), (34, qx (.invokevirtual 464) 3 37 226 3 12)]), (56, [(37, qe (.pop) 1 38), (38, qe (.aload_n 0) 1 39), (39, qw (.iconst 1) 1 40 1), (40, qe (.iload_n 1) 1 41), (41, qx (.invokevirtual 430) 3 44 206 3 12), (44, qx (.ifCond .ne 5) 3 47 49 0 0), (47, qe (.iload_n 2) 1 48), (48, qe (.ireturn) 1 49), (49, qw (.iinc 2 1) 3 52 1), (52, qx (.goto (-34)) 3 55 18 0 0), (55, qw (.iconst (-1)) 1 56 (-1)), (56, qe (.ireturn) 1 57)])]
noncomputable def mt_233 : pj_T := ((⟨"PegCoatsModel", "goes", "(I)I"⟩, prog_14_method_78_code, 3, (some .int)), (12, false), mc_233)
set_option maxRecDepth 100000 in
/-- 234: PegCoatsModel.isHere(I)Z -/
noncomputable def mc_234 : pj_M := [(21, [(0, qe (.aload_n 0) 1 1), (1, qe (.iload_n 1) 1 2), (2, qx (.invokevirtual 450) 3 5 212 2 12), (5, qx (.ifCond .eq 16) 3 8 21 0 0), (8, qe (.aload_n 0) 1 9), (9, qw (.iconst 0) 1 10 0), (10, qe (.iload_n 1) 1 11), (11, qx (.invokevirtual 430) 3 14 206 3 12), (14, qx (.ifCond .eq 7) 3 17 21 0 0), (17, qw (.iconst 1) 1 18 1), (18, qx (.goto 4) 3 21 22 0 0), (21, qw (.iconst 0) 1 22 0)]), (22, [(22, qe (.ireturn) 1 23)])]
noncomputable def mt_234 : pj_T := ((⟨"PegCoatsModel", "isHere", "(I)Z"⟩, prog_14_method_68_code, 2, (some .boolean)), (12, true), mc_234)
set_option maxRecDepth 100000 in
/-- 235: PegCoatsModel.match(I)I -/
noncomputable def mc_235 : pj_M := [(17, [(0, qe (.iload_n 1) 1 1), (1, qw (.iconst (-1)) 1 2 (-1)), (2, qx (.if_icmp .eq 13) 3 5 15 0 0), (5, qe (.aload_n 0) 1 6), (6, qe (.iload_n 1) 1 7), (7, qx (.invokevirtual 450) 3 10 212 2 12), (10, qx (.ifCond .ne 5) 3 13 15 0 0), (13, qw (.iconst (-1)) 1 14 (-1)), (14, qe (.ireturn) 1 15), (15, qw (.iconst 0) 1 16 0), (16, qe (.istore_n 2) 1 17), (17, qe (.iload_n 2) 1 18)]), (41, [(18, qw (.sipush 256) 3 21 256), (21, qx (.if_icmp .ge 28) 3 24 49 0 0), (24, qe (.aload_n 0) 1 25), (25, qx (.getfield 186) 3 28 12 57 2), (28, qe (.aload_n 0) 1 29), (29, qx (.getfield 63) 3 32 12 17 2), (32, qe (.aload_n 0) 1 33), (33, qx (.getfield 51) 3 36 12 13 0), (36, qe (.iaload) 1 37), (37, qe (.iload_n 2) 1 38), (38, qx (.invokestatic 476) 3 41 236 2 0), (41, qw (.iconst 0) 1 42 0)]), (61, [(42, qe (.iastore) 1 43), (43, qw (.iinc 2 1) 3 46 1), (46, qx (.goto (-29)) 3 49 17 0 0), (49, qe (.aload_n 0) 1 50), (50, qx (.getfield 63) 3 53 12 17 2), (53, qe (.aload_n 0) 1 54), (54, qx (.getfield 51) 3 57 12 13 0), (57, qe (.iaload) 1 58), (58, qw (.iconst 1) 1 59 1), (59, qe (.isub) 1 60), (60, qe (.istore_n 2) 1 61), (61, qe (.iload_n 2) 1 62)]), (81, [(62, qx (.ifCond .lt 135) 3 65 197 0 0), (65, qw (.iconst 0) 1 66 0), (66, qe (.istore_n 3) 1 67), (67, qe (.iload_n 3) 1 68), (68, qw (.sipush 256) 3 71 256), (71, qx (.if_icmp .ge 120) 3 74 191 0 0), (74, qe (.aload_n 0) 1 75), (75, qx (.getfield 186) 3 78 12 57 2), (78, qe (.iload_n 2) 1 79), (79, qw (.iconst 1) 1 80 1), (80, qe (.iadd) 1 81), (81, qe (.iload_n 3) 1 82)]), (102, [(82, qx (.invokestatic 476) 3 85 236 2 0), (85, qe (.iaload) 1 86), (86, qe (.istore 4) 2 88), (88, qw (.iconst 0) 1 89 0), (89, qe (.istore 5) 2 91), (91, qe (.iload 5) 2 93), (93, qe (.aload_n 0) 1 94), (94, qx (.getfield 54) 3 97 12 14 2), (97, qe (.aload_n 0) 1 98), (98, qx (.getfield 51) 3 101 12 13 0), (101, qe (.iaload) 1 102), (102, qx (.if_icmp .ge 71) 3 105 173 0 0)]), (126, [(105, qe (.aload_n 0) 1 106), (106, qe (.iload_n 2) 1 107), (107, qe (.iload 5) 2 109), (109, qe (.iload_n 3) 1 110), (110, qx (.invokevirtual 479) 3 113 237 4 12), (113, qe (.istore 6) 2 115), (115, qe (.iload 6) 2 117), (117, qx (.ifCond .le 50) 3 120 167 0 0), (120, qe (.iload 6) 2 122), (122, qe (.aload_n 0) 1 123), (123, qx (.getfield 186) 3 126 12 57 2), (126, qe (.iload_n 2) 1 127)]), (142, [(127, qw (.iconst 1) 1 128 1), (128, qe (.iadd) 1 129), (129, qe (.iload_n 3) 1 130), (130, qw (.iconst 1) 1 131 1), (131, qe (.iload 5) 2 133), (133, qe (.ishl) 1 134), (134, qe (.ior) 1 135), (135, qx (.invokestatic 476) 3 138 236 2 0), (138, qe (.iaload) 1 139), (139, qe (.iadd) 1 140), (140, qe (.iload 4) 2 142), (142, qx (.if_icmp .le 25) 3 145 167 0 0)]), (160, [(145, qe (.iload 6) 2 147), (147, qe (.aload_n 0) 1 148), (148, qx (.getfield 186) 3 151 12 57 2), (151, qe (.iload_n 2) 1 152), (152, qw (.iconst 1) 1 153 1), (153, qe (.iadd) 1 154), (154, qe (.iload_n 3) 1 155), (155, qw (.iconst 1) 1 156 1), (156, qe (.iload 5) 2 158), (158, qe (.ishl) 1 159), (159, qe (.ior) 1 160), (160, qx (.invokestatic 476) 3 163 236 2 0)]), (184, [(163, qe (.iaload) 1 164), (164, qe (.iadd) 1 165), (165, qe (.istore 4) 2 167), (167, qw (.iinc 5 1) 3 170 1), (170, qx (.goto (-79)) 3 173 91 0 0), (173, qe (.aload_n 0) 1 174), (174, qx (.getfield 186) 3 177 12 57 2), (177, qe (.iload_n 2) 1 178), (178, qe (.iload_n 3) 1 179), (179, qx (.invokestatic 476) 3 182 236 2 0), (182, qe (.iload 4) 2 184), (184, qe (.iastore) 1 185)]), (208, [(185, qw (.iinc 3 1) 3 188 1), (188, qx (.goto (-121)) 3 191 67 0 0), (191, qw (.iinc 2 (-1)) 3 194 (-1)), (194, qx (.goto (-133)) 3 197 61 0 0), (197, qe (.iload_n 1) 1 198), (198, qw (.iconst (-1)) 1 199 (-1)), (199, qx (.if_icmp .ne 10) 3 202 209 0 0), (202, qe (.aload_n 0) 1 203), (203, qx (.getfield 186) 3 206 12 57 2), (206, qw (.iconst 0) 1 207 0), (207, qe (.iaload) 1 208), (208, qe (.ireturn) 1 209)]), (224, [(209, qw (.iconst 0) 1 210 0), (210, qe (.istore_n 2) 1 211), (211, qw (.iconst (-1)) 1 212 (-1)), (212, qe (.istore_n 3) 1 213), (213, qw (.iconst 0) 1 214 0), (214, qe (.istore 4) 2 216), (216, qe (.iload 4) 2 218), (218, qe (.iload_n 1) 1 219), (219, qx (.if_icmp .gt 130) 3 222 349 0 0), (222, qw (.iconst (-1)) 1 223 (-1)), (223, qe (.istore_n 3) 1 224), (224, qe (.aload_n 0) 1 225)]), (246, [(225, qx (.getfield 186) 3 228 12 57 2), (228, qe (.iload 4) 2 230), (230, qe (.iload_n 2) 1 231), (231, qx (.invokestatic 476) 3 234 236 2 0), (234, qe (.iaload) 1 235), (235, qe (.istore 5) 2 237), (237, qw (.iconst 0) 1 238 0), (238, qe (.istore 6) 2 240), (240, qe (.iload 6) 2 242), (242, qe (.aload_n 0) 1 243), (243, qx (.getfield 54) 3 246 12 14 2), (246, qe (.aload_n 0) 1 247)]), (267, [(247, qx (.getfield 51) 3 250 12 13 0), (250, qe (.iaload) 1 251), (251, qx (.if_icmp .ge 77) 3 254 328 0 0), (254, qe (.iload_n 3) 1 255), (255, qw (.iconst (-1)) 1 256 (-1)), (256, qx (.if_icmp .ne 72) 3 259 328 0 0), (259, qe (.aload_n 0) 1 260), (260, qx (.getfield 186) 3 263 12 57 2), (263, qe (.iload 4) 2 265), (265, qw (.iconst 1) 1 266 1), (266, qe (.iadd) 1 267), (267, qe (.iload_n 2) 1 268)]), (290, [(268, qx (.invokestatic 476) 3 271 236 2 0), (271, qe (.iaload) 1 272), (272, qe (.iload 5) 2 274), (274, qx (.if_icmp .eq 54) 3 277 328 0 0), (277, qe (.aload_n 0) 1 278), (278, qe (.iload 4) 2 280), (280, qe (.iload 6) 2 282), (282, qe (.iload_n 2) 1 283), (283, qx (.invokevirtual 479) 3 286 237 4 12), (286, qe (.istore 7) 2 288), (288, qe (.iload 7) 2 290), (290, qx (.ifCond .le 32) 3 293 322 0 0)]), (309, [(293, qe (.iload 7) 2 295), (295, qe (.aload_n 0) 1 296), (296, qx (.getfield 186) 3 299 12 57 2), (299, qe (.iload 4) 2 301), (301, qw (.iconst 1) 1 302 1), (302, qe (.iadd) 1 303), (303, qe (.iload_n 2) 1 304), (304, qw (.iconst 1) 1 305 1), (305, qe (.iload 6) 2 307), (307, qe (.ishl) 1 308), (308, qe (.ior) 1 309), (309, qx (.invokestatic 476) 3 312 236 2 0)]), (331, [(312, qe (.iaload) 1 313), (313, qe (.iadd) 1 314), (314, qe (.iload 5) 2 316), (316, qx (.if_icmp .ne 6) 3 319 322 0 0), (319, qe (.iload 6) 2 321), (321, qe (.istore_n 3) 1 322), (322, qw (.iinc 6 1) 3 325 1), (325, qx (.goto (-85)) 3 328 240 0 0), (328, qe (.iload_n 2) 1 329), (329, qe (.iload_n 3) 1 330), (330, qw (.iconst (-1)) 1 331 (-1)), (331, qx (.if_icmp .ne 7) 3 334 338 0 0)]), (350, [(334, qw (.iconst 0) 1 335 0), (335, qx (.goto 6) 3 338 341 0 0), (338, qw (.iconst 1) 1 339 1), (339, qe (.iload_n 3) 1 340), (340, qe (.ishl) 1 341), (341, qe (.ior) 1 342), (342, qe (.istore_n 2) 1 343), (343, qw (.iinc 4 1) 3 346 1), (346, qx (.goto (-130)) 3 349 216 0 0), (349, qe (.iload_n 3) 1 350), (350, qe (.ireturn) 1 351)])]
noncomputable def mt_235 : pj_T := ((⟨"PegCoatsModel", "match", "(I)I"⟩, prog_14_method_81_code, 8, (some .int)), (12, false), mc_235)
set_option maxRecDepth 100000 in
/-- 236: PegCoatsModel.from(II)I -/
noncomputable def mc_236 : pj_M := [(7, [(0, qw (.sipush 256) 3 3 256), (3, qe (.iload_n 0) 1 4), (4, qe (.imul) 1 5), (5, qe (.iload_n 1) 1 6), (6, qe (.iadd) 1 7), (7, qe (.ireturn) 1 8)])]
noncomputable def mt_236 : pj_T := ((⟨"PegCoatsModel", "from", "(II)I"⟩, prog_14_method_80_code, 2, (some .int)), (12, false), mc_236)
set_option maxRecDepth 100000 in
/-- 237: PegCoatsModel.fits(III)I -/
noncomputable def mc_237 : pj_M := [(21, [(0, qe (.aload_n 0) 1 1), (1, qw (.iconst 0) 1 2 0), (2, qe (.iload_n 1) 1 3), (3, qx (.invokevirtual 430) 3 6 206 3 12), (6, qx (.ifCond .eq 24) 3 9 30 0 0), (9, qe (.iload_n 3) 1 10), (10, qe (.iload_n 2) 1 11), (11, qx (.invokestatic 407) 3 14 207 2 0), (14, qx (.ifCond .ne 16) 3 17 30 0 0), (17, qe (.aload_n 0) 1 18), (18, qx (.getfield 144) 3 21 12 43 2), (21, qw (.iconst 0) 1 22 0)]), (39, [(22, qe (.iaload) 1 23), (23, qe (.iload_n 2) 1 24), (24, qx (.invokestatic 407) 3 27 207 2 0), (27, qx (.ifCond .eq 5) 3 30 32 0 0), (30, qw (.iconst 0) 1 31 0), (31, qe (.ireturn) 1 32), (32, qe (.aload_n 0) 1 33), (33, qw (.iconst 0) 1 34 0), (34, qe (.iload_n 1) 1 35), (35, qe (.iload_n 2) 1 36), (36, qx (.invokevirtual 458) 3 39 216 4 12), (39, qe (.lstore 4) 2 41)]), (55, [(41, qe (.lload 4) 2 43), (43, ql (.lconst 0) 1 44 0), (44, qe (.lcmp) 1 45), (45, qx (.ifCond .le 9) 3 48 54 0 0), (48, qe (.lload 4) 2 50), (50, qe (.l2i) 1 51), (51, qx (.goto 4) 3 54 55 0 0), (54, qw (.iconst 0) 1 55 0), (55, qe (.ireturn) 1 56)])]
noncomputable def mt_237 : pj_T := ((⟨"PegCoatsModel", "fits", "(III)I"⟩, prog_14_method_79_code, 6, (some .int)), (12, false), mc_237)
set_option maxRecDepth 100000 in
/-- 238: PegCoatsModel.glad(I)I -/
noncomputable def mc_238 : pj_M := [(15, [(0, qe (.iload_n 1) 1 1), (1, qw (.iconst 0) 1 2 0), (2, qw (.iconst 2) 1 3 2), (3, qx (.invokestatic 288) 3 6 179 3 0), (6, qx (.ifCond .ne 5) 3 9 11 0 0), (9, qw (.iconst (-1)) 1 10 (-1)), (10, qe (.ireturn) 1 11), (11, qw (.iconst 0) 1 12 0), (12, qe (.istore_n 2) 1 13), (13, qw (.iconst (-1)) 1 14 (-1)), (14, qe (.istore_n 3) 1 15), (15, qw (.iconst (-1)) 1 16 (-1))]), (37, [(16, qe (.istore 4) 2 18), (18, qw (.iconst 0) 1 19 0), (19, qe (.istore 5) 2 21), (21, qe (.iload 5) 2 23), (23, qe (.aload_n 0) 1 24), (24, qx (.getfield 63) 3 27 12 17 2), (27, qe (.aload_n 0) 1 28), (28, qx (.getfield 51) 3 31 12 13 0), (31, qe (.iaload) 1 32), (32, qx (.if_icmp .ge 154) 3 35 186 0 0), (35, qe (.iload 5) 2 37), (37, qw (.iconst 1) 1 38 1)]), (59, [(38, qe (.iadd) 1 39), (39, qe (.istore 6) 2 41), (41, qe (.iload 6) 2 43), (43, qe (.aload_n 0) 1 44), (44, qx (.getfield 63) 3 47 12 17 2), (47, qe (.aload_n 0) 1 48), (48, qx (.getfield 51) 3 51 12 13 0), (51, qe (.iaload) 1 52), (52, qx (.if_icmp .ge 128) 3 55 180 0 0), (55, qe (.aload_n 0) 1 56), (56, qx (.getfield 156) 3 59 12 47 2), (59, qe (.iload 5) 2 61)]), (81, [(61, qe (.iaload) 1 62), (62, qw (.iconst (-1)) 1 63 (-1)), (63, qx (.if_icmp .eq 111) 3 66 174 0 0), (66, qe (.aload_n 0) 1 67), (67, qx (.getfield 156) 3 70 12 47 2), (70, qe (.iload 6) 2 72), (72, qe (.iaload) 1 73), (73, qw (.iconst (-1)) 1 74 (-1)), (74, qx (.if_icmp .ne 6) 3 77 80 0 0), (77, qx (.goto 97) 3 80 174 0 0), (80, qe (.aload_n 0) 1 81), (81, qw (.iconst 0) 1 82 0)]), (102, [(82, qe (.iload 5) 2 84), (84, qe (.aload_n 0) 1 85), (85, qx (.getfield 156) 3 88 12 47 2), (88, qe (.iload 6) 2 90), (90, qe (.iaload) 1 91), (91, qx (.invokevirtual 458) 3 94 216 4 12), (94, qe (.aload_n 0) 1 95), (95, qw (.iconst 0) 1 96 0), (96, qe (.iload 5) 2 98), (98, qe (.aload_n 0) 1 99), (99, qx (.getfield 156) 3 102 12 47 2), (102, qe (.iload 5) 2 104)]), (123, [(104, qe (.iaload) 1 105), (105, qx (.invokevirtual 458) 3 108 216 4 12), (108, qe (.lcmp) 1 109), (109, qx (.ifCond .le 65) 3 112 174 0 0), (112, qe (.aload_n 0) 1 113), (113, qw (.iconst 0) 1 114 0), (114, qe (.iload 6) 2 116), (116, qe (.aload_n 0) 1 117), (117, qx (.getfield 156) 3 120 12 47 2), (120, qe (.iload 5) 2 122), (122, qe (.iaload) 1 123), (123, qx (.invokevirtual 458) 3 126 216 4 12)]), (147, [(126, qe (.aload_n 0) 1 127), (127, qw (.iconst 0) 1 128 0), (128, qe (.iload 6) 2 130), (130, qe (.aload_n 0) 1 131), (131, qx (.getfield 156) 3 134 12 47 2), (134, qe (.iload 6) 2 136), (136, qe (.iaload) 1 137), (137, qx (.invokevirtual 458) 3 140 216 4 12), (140, qe (.lcmp) 1 141), (141, qx (.ifCond .gt 6) 3 144 147 0 0), (144, qx (.goto 30) 3 147 174 0 0), (147, qe (.iload_n 2) 1 148)]), (171, [(148, qx (.ifCond .ne 8) 3 151 156 0 0), (151, qe (.iload 5) 2 153), (153, qx (.goto 4) 3 156 157 0 0), (156, qe (.iload_n 3) 1 157), (157, qe (.istore_n 3) 1 158), (158, qe (.iload_n 2) 1 159), (159, qx (.ifCond .ne 8) 3 162 167 0 0), (162, qe (.iload 6) 2 164), (164, qx (.goto 5) 3 167 169 0 0), (167, qe (.iload 4) 2 169), (169, qe (.istore 4) 2 171), (171, qw (.iinc 2 1) 3 174 1)]), (199, [(174, qw (.iinc 6 1) 3 177 1), (177, qx (.goto (-136)) 3 180 41 0 0), (180, qw (.iinc 5 1) 3 183 1), (183, qx (.goto (-162)) 3 186 21 0 0), (186, qe (.iload_n 1) 1 187), (187, qx (.ifCond .ne 7) 3 190 194 0 0), (190, qe (.iload_n 2) 1 191), (191, qx (.goto 14) 3 194 205 0 0), (194, qe (.iload_n 1) 1 195), (195, qw (.iconst 1) 1 196 1), (196, qx (.if_icmp .ne 7) 3 199 203 0 0), (199, qe (.iload_n 3) 1 200)]), (205, [(200, qx (.goto 5) 3 203 205 0 0), (203, qe (.iload 4) 2 205), (205, qe (.ireturn) 1 206)])]
noncomputable def mt_238 : pj_T := ((⟨"PegCoatsModel", "glad", "(I)I"⟩, prog_14_method_82_code, 7, (some .int)), (12, false), mc_238)
set_option maxRecDepth 100000 in
/-- 239: PegCoatsModel.passes(III)I -/
noncomputable def mc_239 : pj_M := [(19, [(0, qe (.aload_n 0) 1 1), (1, qe (.iload_n 1) 1 2), (2, qx (.invokevirtual 473) 3 5 234 2 12), (5, qx (.ifCond .eq 11) 3 8 16 0 0), (8, qe (.aload_n 0) 1 9), (9, qe (.iload_n 2) 1 10), (10, qx (.invokevirtual 453) 3 13 211 2 12), (13, qx (.ifCond .ne 5) 3 16 18 0 0), (16, qw (.iconst (-1)) 1 17 (-1)), (17, qe (.ireturn) 1 18), (18, qw (.iconst 0) 1 19 0), (19, qe (.istore 4) 2 21)]), (41, [(21, qw (.iconst 0) 1 22 0), (22, qe (.istore 5) 2 24), (24, qe (.iload 5) 2 26), (26, qe (.aload_n 0) 1 27), (27, qx (.getfield 63) 3 30 12 17 2), (30, qe (.aload_n 0) 1 31), (31, qx (.getfield 51) 3 34 12 13 0), (34, qe (.iaload) 1 35), (35, qx (.if_icmp .ge 53) 3 38 88 0 0), (38, qe (.iload 5) 2 40), (40, qw (.iconst 1) 1 41 1), (41, qe (.iadd) 1 42)]), (64, [(42, qe (.istore 6) 2 44), (44, qe (.iload 6) 2 46), (46, qe (.aload_n 0) 1 47), (47, qx (.getfield 63) 3 50 12 17 2), (50, qe (.aload_n 0) 1 51), (51, qx (.getfield 51) 3 54 12 13 0), (54, qe (.iaload) 1 55), (55, qx (.if_icmp .ge 27) 3 58 82 0 0), (58, qe (.aload_n 0) 1 59), (59, qx (.getfield 189) 3 62 12 58 2), (62, qe (.iload 4) 2 64), (64, qw (.bipush 8) 2 66 8)]), (89, [(66, qe (.iload 5) 2 68), (68, qe (.imul) 1 69), (69, qe (.iload 6) 2 71), (71, qe (.iadd) 1 72), (72, qe (.iastore) 1 73), (73, qw (.iinc 4 1) 3 76 1), (76, qw (.iinc 6 1) 3 79 1), (79, qx (.goto (-35)) 3 82 44 0 0), (82, qw (.iinc 5 1) 3 85 1), (85, qx (.goto (-61)) 3 88 24 0 0), (88, qw (.iconst 1) 1 89 1), (89, qe (.istore 5) 2 91)]), (112, [(91, qw (.iconst 0) 1 92 0), (92, qe (.istore 6) 2 94), (94, qe (.iload 6) 2 96), (96, qw (.iconst 3) 1 97 3), (97, qx (.if_icmp .gt 184) 3 100 281 0 0), (100, qw (.iconst 0) 1 101 0), (101, qe (.istore 7) 2 103), (103, qe (.iload 7) 2 105), (105, qe (.iload 5) 2 107), (107, qx (.if_icmp .ge 161) 3 110 268 0 0), (110, qe (.iload 7) 2 112), (112, qe (.istore 8) 2 114)]), (135, [(114, qe (.iload 6) 2 116), (116, qw (.iconst 1) 1 117 1), (117, qe (.isub) 1 118), (118, qe (.istore 9) 2 120), (120, qe (.iload 9) 2 122), (122, qx (.ifCond .lt 33) 3 125 155 0 0), (125, qe (.aload_n 0) 1 126), (126, qx (.getfield 192) 3 129 12 59 2), (129, qe (.iload 9) 2 131), (131, qe (.aload_n 0) 1 132), (132, qx (.getfield 189) 3 135 12 58 2), (135, qe (.iload 8) 2 137)]), (156, [(137, qe (.iload 4) 2 139), (139, qe (.irem) 1 140), (140, qe (.iaload) 1 141), (141, qe (.iastore) 1 142), (142, qe (.iload 8) 2 144), (144, qe (.iload 4) 2 146), (146, qe (.idiv) 1 147), (147, qe (.istore 8) 2 149), (149, qw (.iinc 9 (-1)) 3 152 (-1)), (152, qx (.goto (-32)) 3 155 120 0 0), (155, qe (.aload_n 0) 1 156), (156, qw (.iconst 1) 1 157 1)]), (179, [(157, qw (.iconst 0) 1 158 0), (158, qx (.invokevirtual 388) 3 161 204 3 12), (161, qw (.iconst 1) 1 162 1), (162, qe (.istore 9) 2 164), (164, qw (.iconst 0) 1 165 0), (165, qe (.istore 10) 2 167), (167, qe (.iload 10) 2 169), (169, qe (.iload 6) 2 171), (171, qx (.if_icmp .ge 40) 3 174 211 0 0), (174, qe (.iload 9) 2 176), (176, qx (.ifCond .eq 35) 3 179 211 0 0), (179, qe (.aload_n 0) 1 180)]), (199, [(180, qe (.aload_n 0) 1 181), (181, qx (.getfield 192) 3 184 12 59 2), (184, qe (.iload 10) 2 186), (186, qe (.iaload) 1 187), (187, qw (.bipush 8) 2 189 8), (189, qe (.idiv) 1 190), (190, qe (.aload_n 0) 1 191), (191, qx (.getfield 192) 3 194 12 59 2), (194, qe (.iload 10) 2 196), (196, qe (.iaload) 1 197), (197, qw (.bipush 8) 2 199 8), (199, qe (.irem) 1 200)]), (224, [(200, qx (.invokevirtual 485) 3 203 240 3 12), (203, qe (.istore 9) 2 205), (205, qw (.iinc 10 1) 3 208 1), (208, qx (.goto (-41)) 3 211 167 0 0), (211, qe (.iload 9) 2 213), (213, qx (.ifCond .eq 49) 3 216 262 0 0), (216, qe (.aload_n 0) 1 217), (217, qx (.getfield 156) 3 220 12 47 2), (220, qw (.bipush 7) 2 222 7), (222, qe (.iload_n 1) 1 223), (223, qe (.iadd) 1 224), (224, qe (.iaload) 1 225)]), (244, [(225, qe (.iload_n 2) 1 226), (226, qx (.if_icmp .ne 36) 3 229 262 0 0), (229, qe (.iload_n 3) 1 230), (230, qw (.iconst (-1)) 1 231 (-1)), (231, qx (.if_icmp .ne 8) 3 234 239 0 0), (234, qe (.iload 6) 2 236), (236, qx (.goto 25) 3 239 261 0 0), (239, qe (.iload_n 3) 1 240), (240, qw (.iconst 0) 1 241 0), (241, qe (.iload 6) 2 243), (243, qw (.iconst 1) 1 244 1), (244, qe (.isub) 1 245)]), (268, [(245, qx (.invokestatic 288) 3 248 179 3 0), (248, qx (.ifCond .eq 12) 3 251 260 0 0), (251, qe (.aload_n 0) 1 252), (252, qx (.getfield 192) 3 255 12 59 2), (255, qe (.iload_n 3) 1 256), (256, qe (.iaload) 1 257), (257, qx (.goto 4) 3 260 261 0 0), (260, qw (.iconst (-1)) 1 261 (-1)), (261, qe (.ireturn) 1 262), (262, qw (.iinc 7 1) 3 265 1), (265, qx (.goto (-162)) 3 268 103 0 0), (268, qe (.iload 5) 2 270)]), (282, [(270, qe (.iload 4) 2 272), (272, qe (.imul) 1 273), (273, qe (.istore 5) 2 275), (275, qw (.iinc 6 1) 3 278 1), (278, qx (.goto (-184)) 3 281 94 0 0), (281, qw (.iconst (-1)) 1 282 (-1)), (282, qe (.ireturn) 1 283)])]
noncomputable def mt_239 : pj_T := ((⟨"PegCoatsModel", "passes", "(III)I"⟩, prog_14_method_85_code, 11, (some .int)), (12, false), mc_239)
set_option maxRecDepth 100000 in
/-- 240: PegCoatsModel.changesWell(II)Z -/
noncomputable def mc_240 : pj_M := [(17, [(0, qe (.aload_n 0) 1 1), (1, qx (.getfield 156) 3 4 12 47 2), (4, qw (.bipush 7) 2 6 7), (6, qe (.iload_n 1) 1 7), (7, qe (.iadd) 1 8), (8, qe (.iaload) 1 9), (9, qe (.istore_n 3) 1 10), (10, qe (.aload_n 0) 1 11), (11, qx (.getfield 156) 3 14 12 47 2), (14, qw (.bipush 7) 2 16 7), (16, qe (.iload_n 2) 1 17), (17, qe (.iadd) 1 18)]), (36, [(18, qe (.iaload) 1 19), (19, qe (.istore 4) 2 21), (21, qe (.aload_n 0) 1 22), (22, qw (.iconst 1) 1 23 1), (23, qe (.iload_n 1) 1 24), (24, qx (.invokevirtual 430) 3 27 206 3 12), (27, qx (.ifCond .eq 23) 3 30 50 0 0), (30, qe (.aload_n 0) 1 31), (31, qw (.iconst 1) 1 32 1), (32, qe (.iload_n 2) 1 33), (33, qx (.invokevirtual 430) 3 36 206 3 12), (36, qx (.ifCond .eq 14) 3 39 50 0 0)]), (55, [(39, qe (.iload_n 3) 1 40), (40, qw (.iconst (-1)) 1 41 (-1)), (41, qx (.if_icmp .ne 11) 3 44 52 0 0), (44, qe (.iload 4) 2 46), (46, qw (.iconst (-1)) 1 47 (-1)), (47, qx (.if_icmp .ne 5) 3 50 52 0 0), (50, qw (.iconst 0) 1 51 0), (51, qe (.ireturn) 1 52), (52, qe (.aload_n 0) 1 53), (53, qw (.iconst 1) 1 54 1), (54, qe (.iload_n 1) 1 55), (55, qe (.iload_n 3) 1 56)]), (74, [(56, qx (.invokevirtual 458) 3 59 216 4 12), (59, qe (.lstore 5) 2 61), (61, qe (.aload_n 0) 1 62), (62, qw (.iconst 1) 1 63 1), (63, qe (.iload_n 2) 1 64), (64, qe (.iload 4) 2 66), (66, qx (.invokevirtual 458) 3 69 216 4 12), (69, qe (.lstore 7) 2 71), (71, qe (.aload_n 0) 1 72), (72, qw (.iconst 1) 1 73 1), (73, qe (.iload_n 1) 1 74), (74, qe (.iload_n 2) 1 75)]), (94, [(75, qx (.invokevirtual 482) 3 78 241 4 12), (78, qe (.aload_n 0) 1 79), (79, qw (.iconst 1) 1 80 1), (80, qe (.iload_n 1) 1 81), (81, qe (.iload 4) 2 83), (83, qx (.invokevirtual 458) 3 86 216 4 12), (86, qe (.lload 5) 2 88), (88, qe (.lcmp) 1 89), (89, qx (.ifCond .lt 20) 3 92 109 0 0), (92, qe (.aload_n 0) 1 93), (93, qw (.iconst 1) 1 94 1), (94, qe (.iload_n 2) 1 95)]), (110, [(95, qe (.iload_n 3) 1 96), (96, qx (.invokevirtual 458) 3 99 216 4 12), (99, qe (.lload 7) 2 101), (101, qe (.lcmp) 1 102), (102, qx (.ifCond .lt 7) 3 105 109 0 0), (105, qw (.iconst 1) 1 106 1), (106, qx (.goto 4) 3 109 110 0 0), (109, qw (.iconst 0) 1 110 0), (110, qe (.ireturn) 1 111)])]
noncomputable def mt_240 : pj_T := ((⟨"PegCoatsModel", "changesWell", "(II)Z"⟩, prog_14_method_84_code, 9, (some .boolean)), (12, true), mc_240)
set_option maxRecDepth 100000 in
/-- 241: PegCoatsModel.changes(III)V -/
noncomputable def mc_241 : pj_M := [(17, [(0, qe (.aload_n 0) 1 1), (1, qx (.getfield 156) 3 4 12 47 2), (4, qw (.bipush 7) 2 6 7), (6, qe (.iload_n 1) 1 7), (7, qe (.imul) 1 8), (8, qe (.iload_n 2) 1 9), (9, qe (.iadd) 1 10), (10, qe (.iaload) 1 11), (11, qe (.istore 4) 2 13), (13, qe (.aload_n 0) 1 14), (14, qx (.getfield 156) 3 17 12 47 2), (17, qw (.bipush 7) 2 19 7)]), (34, [(19, qe (.iload_n 1) 1 20), (20, qe (.imul) 1 21), (21, qe (.iload_n 3) 1 22), (22, qe (.iadd) 1 23), (23, qe (.iaload) 1 24), (24, qe (.istore 5) 2 26), (26, qe (.aload_n 0) 1 27), (27, qe (.iload_n 1) 1 28), (28, qe (.iload_n 2) 1 29), (29, qe (.iload 5) 2 31), (31, qx (.invokevirtual 443) 3 34 230 4 12), (34, qe (.aload_n 0) 1 35)]), (42, [(35, qe (.iload_n 1) 1 36), (36, qe (.iload_n 3) 1 37), (37, qe (.iload 4) 2 39), (39, qx (.invokevirtual 443) 3 42 230 4 12), (42, qe (.return_) 1 43)])]
noncomputable def mt_241 : pj_T := ((⟨"PegCoatsModel", "changes", "(III)V"⟩, prog_14_method_83_code, 6, none), (12, false), mc_241)
set_option maxRecDepth 100000 in
/-- 242: PegCoatsModel.waits(II)I -/
noncomputable def mc_242 : pj_M := [(19, [(0, qe (.aload_n 0) 1 1), (1, qe (.iload_n 1) 1 2), (2, qx (.invokevirtual 473) 3 5 234 2 12), (5, qx (.ifCond .eq 24) 3 8 29 0 0), (8, qe (.aload_n 0) 1 9), (9, qx (.getfield 156) 3 12 12 47 2), (12, qe (.iload_n 1) 1 13), (13, qe (.iaload) 1 14), (14, qw (.iconst (-1)) 1 15 (-1)), (15, qx (.if_icmp .ne 14) 3 18 29 0 0), (18, qe (.aload_n 0) 1 19), (19, qe (.iload_n 2) 1 20)]), (37, [(20, qw (.iconst 1) 1 21 1), (21, qw (.bipush 20) 2 23 20), (23, qx (.invokevirtual 467) 3 26 224 4 12), (26, qx (.ifCond .ne 5) 3 29 31 0 0), (29, qw (.iconst (-1)) 1 30 (-1)), (30, qe (.ireturn) 1 31), (31, qw (.iconst (-1)) 1 32 (-1)), (32, qe (.istore_n 3) 1 33), (33, qw (.iconst (-1)) 1 34 (-1)), (34, qe (.istore 4) 2 36), (36, qw (.iconst 0) 1 37 0), (37, qe (.istore 5) 2 39)]), (57, [(39, qe (.iload 5) 2 41), (41, qe (.iload_n 2) 1 42), (42, qx (.if_icmp .gt 79) 3 45 121 0 0), (45, qe (.aload_n 0) 1 46), (46, qw (.iconst 1) 1 47 1), (47, qw (.iconst 0) 1 48 0), (48, qx (.invokevirtual 388) 3 51 204 3 12), (51, qw (.iconst 0) 1 52 0), (52, qe (.istore 6) 2 54), (54, qe (.iload 6) 2 56), (56, qe (.iload_n 2) 1 57), (57, qx (.if_icmp .ge 27) 3 60 84 0 0)]), (81, [(60, qe (.aload_n 0) 1 61), (61, qw (.iconst 1) 1 62 1), (62, qe (.iload 6) 2 64), (64, qe (.iload 5) 2 66), (66, qx (.if_icmp .ge 7) 3 69 73 0 0), (69, qe (.iload_n 1) 1 70), (70, qx (.goto 4) 3 73 74 0 0), (73, qw (.iconst (-1)) 1 74 (-1)), (74, qx (.invokevirtual 464) 3 77 226 3 12), (77, qe (.pop) 1 78), (78, qw (.iinc 6 1) 3 81 1), (81, qx (.goto (-27)) 3 84 54 0 0)]), (105, [(84, qe (.aload_n 0) 1 85), (85, qx (.getfield 159) 3 88 12 48 2), (88, qw (.bipush 7) 2 90 7), (90, qe (.iload_n 1) 1 91), (91, qe (.iadd) 1 92), (92, qe (.iaload) 1 93), (93, qe (.iload 4) 2 95), (95, qx (.if_icmp .gt 6) 3 98 101 0 0), (98, qx (.goto 17) 3 101 115 0 0), (101, qe (.aload_n 0) 1 102), (102, qx (.getfield 159) 3 105 12 48 2), (105, qw (.bipush 7) 2 107 7)]), (122, [(107, qe (.iload_n 1) 1 108), (108, qe (.iadd) 1 109), (109, qe (.iaload) 1 110), (110, qe (.istore 4) 2 112), (112, qe (.iload 5) 2 114), (114, qe (.istore_n 3) 1 115), (115, qw (.iinc 5 1) 3 118 1), (118, qx (.goto (-79)) 3 121 39 0 0), (121, qe (.iload_n 3) 1 122), (122, qe (.ireturn) 1 123)])]
noncomputable def mt_242 : pj_T := ((⟨"PegCoatsModel", "waits", "(II)I"⟩, prog_14_method_86_code, 7, (some .int)), (12, false), mc_242)
set_option maxRecDepth 100000 in
/-- 243: PegCoatsModel.called(II)I -/
noncomputable def mc_243 : pj_M := [(21, [(0, qe (.iload_n 1) 1 1), (1, qw (.iconst 1) 1 2 1), (2, qw (.bipush 99) 2 4 99), (4, qx (.invokestatic 288) 3 7 179 3 0), (7, qx (.ifCond .eq 23) 3 10 30 0 0), (10, qe (.iload_n 2) 1 11), (11, qw (.iconst 0) 1 12 0), (12, qw (.bipush 99) 2 14 99), (14, qx (.invokestatic 288) 3 17 179 3 0), (17, qx (.ifCond .eq 13) 3 20 30 0 0), (20, qe (.aload_n 0) 1 21), (21, qw (.iconst 0) 1 22 0)]), (31, [(22, qe (.iload_n 1) 1 23), (23, qe (.iload_n 2) 1 24), (24, qx (.invokevirtual 439) 3 27 229 4 12), (27, qx (.goto 4) 3 30 31 0 0), (30, qw (.iconst (-1)) 1 31 (-1)), (31, qe (.ireturn) 1 32)])]
noncomputable def mt_243 : pj_T := ((⟨"PegCoatsModel", "called", "(II)I"⟩, prog_14_method_87_code, 3, (some .int)), (12, false), mc_243)
set_option maxRecDepth 100000 in
/-- 244: PegCoatsModel.see()I -/
noncomputable def mc_244 : pj_M := [(17, [(0, qe (.aload_n 0) 1 1), (1, qx (.getfield 13) 3 4 12 1 0), (4, qe (.istore_n 1) 1 5), (5, qe (.aload_n 0) 1 6), (6, qw (.iconst 0) 1 7 0), (7, qx (.putfield 13) 3 10 12 1 0), (10, qe (.iload_n 1) 1 11), (11, qx (.ifCond .le 19) 3 14 30 0 0), (14, qe (.iload_n 1) 1 15), (15, qw (.iconst 3) 1 16 3), (16, qe (.irem) 1 17), (17, qx (.ifCond .ne 13) 3 20 30 0 0)]), (36, [(20, qe (.iload_n 1) 1 21), (21, qw (.bipush 48) 2 23 48), (23, qx (.if_icmp .gt 7) 3 26 30 0 0), (26, qw (.iconst 1) 1 27 1), (27, qx (.goto 4) 3 30 31 0 0), (30, qw (.iconst 0) 1 31 0), (31, qe (.istore_n 2) 1 32), (32, qw (.iconst 0) 1 33 0), (33, qe (.istore_n 3) 1 34), (34, qe (.iload_n 3) 1 35), (35, qe (.iload_n 1) 1 36), (36, qx (.if_icmp .ge 74) 3 39 110 0 0)]), (59, [(39, qe (.iload_n 2) 1 40), (40, qx (.ifCond .eq 70) 3 43 110 0 0), (43, qe (.aload_n 0) 1 44), (44, qx (.getfield 7) 3 47 12 0 2), (47, qe (.iload_n 3) 1 48), (48, qe (.iaload) 1 49), (49, qw (.bipush 30) 2 51 30), (51, qx (.if_icmp .gt 51) 3 54 102 0 0), (54, qe (.aload_n 0) 1 55), (55, qe (.aload_n 0) 1 56), (56, qx (.getfield 7) 3 59 12 0 2), (59, qe (.iload_n 3) 1 60)]), (77, [(60, qw (.iconst 1) 1 61 1), (61, qe (.iadd) 1 62), (62, qe (.iaload) 1 63), (63, qx (.invokevirtual 450) 3 66 212 2 12), (66, qx (.ifCond .eq 36) 3 69 102 0 0), (69, qe (.aload_n 0) 1 70), (70, qe (.aload_n 0) 1 71), (71, qx (.getfield 7) 3 74 12 0 2), (74, qe (.iload_n 3) 1 75), (75, qw (.iconst 2) 1 76 2), (76, qe (.iadd) 1 77), (77, qe (.iaload) 1 78)]), (99, [(78, qx (.invokevirtual 453) 3 81 211 2 12), (81, qx (.ifCond .ne 17) 3 84 98 0 0), (84, qe (.aload_n 0) 1 85), (85, qx (.getfield 7) 3 88 12 0 2), (88, qe (.iload_n 3) 1 89), (89, qw (.iconst 2) 1 90 2), (90, qe (.iadd) 1 91), (91, qe (.iaload) 1 92), (92, qw (.sipush 255) 3 95 255), (95, qx (.if_icmp .ne 7) 3 98 102 0 0), (98, qw (.iconst 1) 1 99 1), (99, qx (.goto 4) 3 102 103 0 0)]), (121, [(102, qw (.iconst 0) 1 103 0), (103, qe (.istore_n 2) 1 104), (104, qw (.iinc 3 3) 3 107 3), (107, qx (.goto (-73)) 3 110 34 0 0), (110, qe (.iload_n 2) 1 111), (111, qx (.ifCond .ne 9) 3 114 120 0 0), (114, qe (.aload_n 0) 1 115), (115, qw (.iconst 5) 1 116 5), (116, qx (.invokevirtual 216) 3 119 160 2 12), (119, qe (.ireturn) 1 120), (120, qe (.aload_n 0) 1 121), (121, qe (.iload_n 1) 1 122)]), (141, [(122, qw (.iconst 3) 1 123 3), (123, qe (.idiv) 1 124), (124, qx (.putfield 195) 3 127 12 60 0), (127, qw (.iconst 0) 1 128 0), (128, qe (.istore_n 3) 1 129), (129, qe (.iload_n 3) 1 130), (130, qe (.aload_n 0) 1 131), (131, qx (.getfield 195) 3 134 12 60 0), (134, qx (.if_icmp .ge 75) 3 137 209 0 0), (137, qe (.aload_n 0) 1 138), (138, qx (.getfield 198) 3 141 12 61 2), (141, qe (.iload_n 3) 1 142)]), (157, [(142, qe (.aload_n 0) 1 143), (143, qx (.getfield 7) 3 146 12 0 2), (146, qw (.iconst 3) 1 147 3), (147, qe (.iload_n 3) 1 148), (148, qe (.imul) 1 149), (149, qe (.iaload) 1 150), (150, qe (.iastore) 1 151), (151, qe (.aload_n 0) 1 152), (152, qx (.getfield 201) 3 155 12 62 2), (155, qe (.iload_n 3) 1 156), (156, qe (.aload_n 0) 1 157), (157, qx (.getfield 7) 3 160 12 0 2)]), (173, [(160, qw (.iconst 3) 1 161 3), (161, qe (.iload_n 3) 1 162), (162, qe (.imul) 1 163), (163, qw (.iconst 1) 1 164 1), (164, qe (.iadd) 1 165), (165, qe (.iaload) 1 166), (166, qe (.iastore) 1 167), (167, qe (.aload_n 0) 1 168), (168, qx (.getfield 204) 3 171 12 63 2), (171, qe (.iload_n 3) 1 172), (172, qe (.aload_n 0) 1 173), (173, qx (.getfield 7) 3 176 12 0 2)]), (193, [(176, qw (.iconst 3) 1 177 3), (177, qe (.iload_n 3) 1 178), (178, qe (.imul) 1 179), (179, qw (.iconst 2) 1 180 2), (180, qe (.iadd) 1 181), (181, qe (.iaload) 1 182), (182, qw (.sipush 255) 3 185 255), (185, qx (.if_icmp .ne 7) 3 188 192 0 0), (188, qw (.iconst (-1)) 1 189 (-1)), (189, qx (.goto 13) 3 192 202 0 0), (192, qe (.aload_n 0) 1 193), (193, qx (.getfield 7) 3 196 12 0 2)]), (213, [(196, qw (.iconst 3) 1 197 3), (197, qe (.iload_n 3) 1 198), (198, qe (.imul) 1 199), (199, qw (.iconst 2) 1 200 2), (200, qe (.iadd) 1 201), (201, qe (.iaload) 1 202), (202, qe (.iastore) 1 203), (203, qw (.iinc 3 1) 3 206 1), (206, qx (.goto (-77)) 3 209 129 0 0), (209, qe (.aload_n 0) 1 210), (210, qx (.getfield 195) 3 213 12 60 0), (213, qe (.ireturn) 1 214)])]
noncomputable def mt_244 : pj_T := ((⟨"PegCoatsModel", "see", "()I"⟩, prog_14_method_88_code, 4, (some .int)), (12, false), mc_244)
set_option maxRecDepth 100000 in
/-- 245: PegCoatsModel.had(I)I -/
noncomputable def mc_245 : pj_M := [(17, [(0, qe (.aload_n 0) 1 1), (1, qe (.iload_n 1) 1 2), (2, qx (.invokevirtual 473) 3 5 234 2 12), (5, qx (.ifCond .eq 11) 3 8 16 0 0), (8, qe (.aload_n 0) 1 9), (9, qe (.iload_n 1) 1 10), (10, qx (.invokevirtual 488) 3 13 246 2 12), (13, qx (.goto 4) 3 16 17 0 0), (16, qw (.iconst (-1)) 1 17 (-1)), (17, qe (.ireturn) 1 18)])]
noncomputable def mt_245 : pj_T := ((⟨"PegCoatsModel", "had", "(I)I"⟩, prog_14_method_90_code, 2, (some .int)), (12, false), mc_245)
set_option maxRecDepth 100000 in
/-- 246: PegCoatsModel.hadBits(I)I -/
noncomputable def mc_246 : pj_M := [(17, [(0, qw (.iconst 0) 1 1 0), (1, qe (.istore_n 2) 1 2), (2, qw (.iconst (-1)) 1 3 (-1)), (3, qe (.istore_n 3) 1 4), (4, qe (.iload_n 3) 1 5), (5, qe (.aload_n 0) 1 6), (6, qx (.getfield 54) 3 9 12 14 2), (9, qe (.aload_n 0) 1 10), (10, qx (.getfield 51) 3 13 12 13 0), (13, qe (.iaload) 1 14), (14, qx (.if_icmp .ge 222) 3 17 236 0 0), (17, qe (.iload_n 3) 1 18)]), (35, [(18, qw (.iconst (-1)) 1 19 (-1)), (19, qx (.if_icmp .eq 25) 3 22 44 0 0), (22, qe (.iload_n 3) 1 23), (23, qe (.aload_n 0) 1 24), (24, qx (.getfield 156) 3 27 12 47 2), (27, qe (.iload_n 1) 1 28), (28, qe (.iaload) 1 29), (29, qx (.if_icmp .eq 15) 3 32 44 0 0), (32, qe (.aload_n 0) 1 33), (33, qw (.iconst 0) 1 34 0), (34, qe (.iload_n 3) 1 35), (35, qx (.invokevirtual 427) 3 38 208 3 12)]), (58, [(38, qx (.ifCond .ne 6) 3 41 44 0 0), (41, qx (.goto 189) 3 44 230 0 0), (44, qe (.aload_n 0) 1 45), (45, qw (.iconst 1) 1 46 1), (46, qw (.iconst 0) 1 47 0), (47, qx (.invokevirtual 388) 3 50 204 3 12), (50, qe (.aload_n 0) 1 51), (51, qx (.getfield 156) 3 54 12 47 2), (54, qw (.bipush 7) 2 56 7), (56, qe (.iload_n 1) 1 57), (57, qe (.iadd) 1 58), (58, qe (.iload_n 3) 1 59)]), (78, [(59, qe (.iastore) 1 60), (60, qw (.iconst 0) 1 61 0), (61, qe (.istore 4) 2 63), (63, qw (.iconst 0) 1 64 0), (64, qe (.istore 5) 2 66), (66, qe (.aload_n 0) 1 67), (67, qe (.iload 5) 2 69), (69, qw (.iconst 0) 1 70 0), (70, qw (.bipush 30) 2 72 30), (72, qx (.invokevirtual 467) 3 75 224 4 12), (75, qx (.ifCond .eq 134) 3 78 209 0 0), (78, qw (.iconst 0) 1 79 0)]), (101, [(79, qe (.istore 6) 2 81), (81, qe (.iload 6) 2 83), (83, qe (.aload_n 0) 1 84), (84, qx (.getfield 63) 3 87 12 17 2), (87, qe (.aload_n 0) 1 88), (88, qx (.getfield 51) 3 91 12 13 0), (91, qe (.iaload) 1 92), (92, qx (.if_icmp .ge 39) 3 95 131 0 0), (95, qe (.aload_n 0) 1 96), (96, qx (.getfield 207) 3 99 12 64 2), (99, qw (.bipush 7) 2 101 7), (101, qw (.bipush 31) 2 103 31)]), (118, [(103, qe (.iload_n 3) 1 104), (104, qw (.iconst 1) 1 105 1), (105, qe (.iadd) 1 106), (106, qe (.imul) 1 107), (107, qe (.iload 5) 2 109), (109, qe (.iadd) 1 110), (110, qe (.imul) 1 111), (111, qe (.iload 6) 2 113), (113, qe (.iadd) 1 114), (114, qe (.aload_n 0) 1 115), (115, qx (.getfield 156) 3 118 12 47 2), (118, qw (.bipush 7) 2 120 7)]), (140, [(120, qe (.iload 6) 2 122), (122, qe (.iadd) 1 123), (123, qe (.iaload) 1 124), (124, qe (.iastore) 1 125), (125, qw (.iinc 6 1) 3 128 1), (128, qx (.goto (-47)) 3 131 81 0 0), (131, qw (.iconst 0) 1 132 0), (132, qe (.istore 6) 2 134), (134, qe (.iload 6) 2 136), (136, qe (.aload_n 0) 1 137), (137, qx (.getfield 195) 3 140 12 60 0), (140, qx (.if_icmp .ge 56) 3 143 196 0 0)]), (164, [(143, qe (.iload 4) 2 145), (145, qe (.aload_n 0) 1 146), (146, qx (.getfield 198) 3 149 12 61 2), (149, qe (.iload 6) 2 151), (151, qe (.iaload) 1 152), (152, qe (.iload 5) 2 154), (154, qx (.if_icmp .ne 32) 3 157 186 0 0), (157, qe (.aload_n 0) 1 158), (158, qx (.getfield 156) 3 161 12 47 2), (161, qw (.bipush 7) 2 163 7), (163, qe (.aload_n 0) 1 164), (164, qx (.getfield 201) 3 167 12 62 2)]), (186, [(167, qe (.iload 6) 2 169), (169, qe (.iaload) 1 170), (170, qe (.iadd) 1 171), (171, qe (.iaload) 1 172), (172, qe (.aload_n 0) 1 173), (173, qx (.getfield 204) 3 176 12 63 2), (176, qe (.iload 6) 2 178), (178, qe (.iaload) 1 179), (179, qx (.if_icmp .ne 7) 3 182 186 0 0), (182, qw (.iconst 1) 1 183 1), (183, qx (.goto 4) 3 186 187 0 0), (186, qw (.iconst 0) 1 187 0)]), (209, [(187, qe (.iadd) 1 188), (188, qe (.istore 4) 2 190), (190, qw (.iinc 6 1) 3 193 1), (193, qx (.goto (-59)) 3 196 134 0 0), (196, qe (.aload_n 0) 1 197), (197, qw (.iconst 1) 1 198 1), (198, qw (.iconst (-1)) 1 199 (-1)), (199, qx (.invokevirtual 464) 3 202 226 3 12), (202, qe (.pop) 1 203), (203, qw (.iinc 5 1) 3 206 1), (206, qx (.goto (-140)) 3 209 66 0 0), (209, qe (.iload_n 2) 1 210)]), (228, [(210, qe (.iload 4) 2 212), (212, qe (.aload_n 0) 1 213), (213, qx (.getfield 195) 3 216 12 60 0), (216, qx (.if_icmp .ne 11) 3 219 227 0 0), (219, qw (.iconst 1) 1 220 1), (220, qe (.iload_n 3) 1 221), (221, qw (.iconst 1) 1 222 1), (222, qe (.iadd) 1 223), (223, qe (.ishl) 1 224), (224, qx (.goto 4) 3 227 228 0 0), (227, qw (.iconst 0) 1 228 0), (228, qe (.ior) 1 229)]), (237, [(229, qe (.istore_n 2) 1 230), (230, qw (.iinc 3 1) 3 233 1), (233, qx (.goto (-229)) 3 236 4 0 0), (236, qe (.iload_n 2) 1 237), (237, qe (.ireturn) 1 238)])]
noncomputable def mt_246 : pj_T := ((⟨"PegCoatsModel", "hadBits", "(I)I"⟩, prog_14_method_89_code, 7, (some .int)), (12, false), mc_246)
set_option maxRecDepth 100000 in
/-- 247: PegCoatsModel.tells(II)I -/
noncomputable def mc_247 : pj_M := [(19, [(0, qe (.aload_n 0) 1 1), (1, qe (.iload_n 1) 1 2), (2, qx (.invokevirtual 473) 3 5 234 2 12), (5, qx (.ifCond .eq 12) 3 8 17 0 0), (8, qe (.iload_n 2) 1 9), (9, qw (.iconst 0) 1 10 0), (10, qw (.iconst 2) 1 11 2), (11, qx (.invokestatic 288) 3 14 179 3 0), (14, qx (.ifCond .ne 5) 3 17 19 0 0), (17, qw (.iconst (-1)) 1 18 (-1)), (18, qe (.ireturn) 1 19), (19, qe (.aload_n 0) 1 20)]), (39, [(20, qe (.iload_n 1) 1 21), (21, qx (.invokevirtual 488) 3 24 246 2 12), (24, qe (.istore_n 3) 1 25), (25, qw (.iconst (-1)) 1 26 (-1)), (26, qe (.istore 4) 2 28), (28, qw (.ldc_w 491) 3 31 100000000), (31, qe (.istore 5) 2 33), (33, qw (.iconst 1) 1 34 1), (34, qe (.istore 6) 2 36), (36, qe (.aload_n 0) 1 37), (37, qe (.iload 6) 2 39), (39, qw (.iconst 1) 1 40 1)]), (62, [(40, qw (.bipush 30) 2 42 30), (42, qx (.invokevirtual 467) 3 45 224 4 12), (45, qx (.ifCond .eq 71) 3 48 116 0 0), (48, qe (.iload_n 3) 1 49), (49, qx (.ifCond .eq 67) 3 52 116 0 0), (52, qw (.iconst 0) 1 53 0), (53, qe (.istore 7) 2 55), (55, qe (.iload 7) 2 57), (57, qe (.aload_n 0) 1 58), (58, qx (.getfield 63) 3 61 12 17 2), (61, qe (.aload_n 0) 1 62), (62, qx (.getfield 51) 3 65 12 13 0)]), (87, [(65, qe (.iaload) 1 66), (66, qx (.if_icmp .ge 44) 3 69 110 0 0), (69, qe (.aload_n 0) 1 70), (70, qe (.iload_n 3) 1 71), (71, qe (.iload 6) 2 73), (73, qe (.iload 7) 2 75), (75, qx (.invokevirtual 492) 3 78 248 4 12), (78, qe (.istore 8) 2 80), (80, qe (.iload 8) 2 82), (82, qe (.iload 5) 2 84), (84, qx (.if_icmp .lt 6) 3 87 90 0 0), (87, qx (.goto 17) 3 90 104 0 0)]), (113, [(90, qe (.iload 8) 2 92), (92, qe (.istore 5) 2 94), (94, qw (.bipush 7) 2 96 7), (96, qe (.iload 6) 2 98), (98, qe (.imul) 1 99), (99, qe (.iload 7) 2 101), (101, qe (.iadd) 1 102), (102, qe (.istore 4) 2 104), (104, qw (.iinc 7 1) 3 107 1), (107, qx (.goto (-52)) 3 110 55 0 0), (110, qw (.iinc 6 1) 3 113 1), (113, qx (.goto (-77)) 3 116 36 0 0)]), (138, [(116, qe (.iload 4) 2 118), (118, qw (.iconst (-1)) 1 119 (-1)), (119, qx (.if_icmp .ne 7) 3 122 126 0 0), (122, qw (.iconst (-1)) 1 123 (-1)), (123, qx (.goto 30) 3 126 153 0 0), (126, qe (.iload_n 2) 1 127), (127, qx (.ifCond .ne 11) 3 130 138 0 0), (130, qe (.iload 4) 2 132), (132, qw (.bipush 7) 2 134 7), (134, qe (.idiv) 1 135), (135, qx (.goto 18) 3 138 153 0 0), (138, qe (.iload_n 2) 1 139)]), (153, [(139, qw (.iconst 1) 1 140 1), (140, qx (.if_icmp .ne 11) 3 143 151 0 0), (143, qe (.iload 4) 2 145), (145, qw (.bipush 7) 2 147 7), (147, qe (.irem) 1 148), (148, qx (.goto 5) 3 151 153 0 0), (151, qe (.iload 5) 2 153), (153, qe (.ireturn) 1 154)])]
noncomputable def mt_247 : pj_T := ((⟨"PegCoatsModel", "tells", "(II)I"⟩, prog_14_method_92_code, 9, (some .int)), (12, false), mc_247)
set_option maxRecDepth 100000 in
/-- 248: PegCoatsModel.mostBy(III)I -/
noncomputable def mc_248 : pj_M := [(20, [(0, qw (.iconst 0) 1 1 0), (1, qe (.istore 4) 2 3), (3, qw (.iconst 0) 1 4 0), (4, qe (.istore 5) 2 6), (6, qe (.iload 5) 2 8), (8, qe (.aload_n 0) 1 9), (9, qx (.getfield 54) 3 12 12 14 2), (12, qe (.aload_n 0) 1 13), (13, qx (.getfield 51) 3 16 12 13 0), (16, qe (.iaload) 1 17), (17, qx (.if_icmp .gt 116) 3 20 133 0 0), (20, qw (.iconst 0) 1 21 0)]), (42, [(21, qe (.istore 6) 2 23), (23, qw (.iconst 0) 1 24 0), (24, qe (.istore 7) 2 26), (26, qe (.iload 7) 2 28), (28, qe (.aload_n 0) 1 29), (29, qx (.getfield 54) 3 32 12 14 2), (32, qe (.aload_n 0) 1 33), (33, qx (.getfield 51) 3 36 12 13 0), (36, qe (.iaload) 1 37), (37, qx (.if_icmp .gt 74) 3 40 111 0 0), (40, qe (.iload 6) 2 42), (42, qe (.iload_n 1) 1 43)]), (68, [(43, qe (.iload 5) 2 45), (45, qx (.invokestatic 407) 3 48 207 2 0), (48, qx (.ifCond .eq 53) 3 51 101 0 0), (51, qe (.iload_n 1) 1 52), (52, qe (.iload 7) 2 54), (54, qx (.invokestatic 407) 3 57 207 2 0), (57, qx (.ifCond .eq 44) 3 60 101 0 0), (60, qe (.aload_n 0) 1 61), (61, qx (.getfield 207) 3 64 12 64 2), (64, qw (.bipush 7) 2 66 7), (66, qw (.bipush 31) 2 68 31), (68, qe (.iload 5) 2 70)]), (85, [(70, qe (.imul) 1 71), (71, qe (.iload_n 2) 1 72), (72, qe (.iadd) 1 73), (73, qe (.imul) 1 74), (74, qe (.iload_n 3) 1 75), (75, qe (.iadd) 1 76), (76, qe (.iaload) 1 77), (77, qe (.aload_n 0) 1 78), (78, qx (.getfield 207) 3 81 12 64 2), (81, qw (.bipush 7) 2 83 7), (83, qw (.bipush 31) 2 85 31), (85, qe (.iload 7) 2 87)]), (102, [(87, qe (.imul) 1 88), (88, qe (.iload_n 2) 1 89), (89, qe (.iadd) 1 90), (90, qe (.imul) 1 91), (91, qe (.iload_n 3) 1 92), (92, qe (.iadd) 1 93), (93, qe (.iaload) 1 94), (94, qx (.if_icmp .ne 7) 3 97 101 0 0), (97, qw (.iconst 1) 1 98 1), (98, qx (.goto 4) 3 101 102 0 0), (101, qw (.iconst 0) 1 102 0), (102, qe (.iadd) 1 103)]), (130, [(103, qe (.istore 6) 2 105), (105, qw (.iinc 7 1) 3 108 1), (108, qx (.goto (-82)) 3 111 26 0 0), (111, qe (.iload 6) 2 113), (113, qe (.iload 4) 2 115), (115, qx (.if_icmp .le 8) 3 118 123 0 0), (118, qe (.iload 6) 2 120), (120, qx (.goto 5) 3 123 125 0 0), (123, qe (.iload 4) 2 125), (125, qe (.istore 4) 2 127), (127, qw (.iinc 5 1) 3 130 1), (130, qx (.goto (-124)) 3 133 6 0 0)]), (135, [(133, qe (.iload 4) 2 135), (135, qe (.ireturn) 1 136)])]
noncomputable def mt_248 : pj_T := ((⟨"PegCoatsModel", "mostBy", "(III)I"⟩, prog_14_method_91_code, 8, (some .int)), (12, false), mc_248)
set_option maxRecDepth 100000 in
/-- 249: PegCoatsModel.years(I)I -/
noncomputable def mc_249 : pj_M := [(18, [(0, qe (.aload_n 0) 1 1), (1, qe (.iload_n 1) 1 2), (2, qw (.iconst 1) 1 3 1), (3, qw (.bipush 40) 2 5 40), (5, qx (.invokevirtual 467) 3 8 224 4 12), (8, qx (.ifCond .ne 9) 3 11 17 0 0), (11, qe (.aload_n 0) 1 12), (12, qw (.iconst 2) 1 13 2), (13, qx (.invokevirtual 216) 3 16 160 2 12), (16, qe (.ireturn) 1 17), (17, qe (.aload_n 0) 1 18), (18, qx (.invokevirtual 495) 3 21 250 1 12)]), (34, [(21, qw (.iconst 0) 1 22 0), (22, qe (.istore_n 2) 1 23), (23, qw (.iconst 0) 1 24 0), (24, qe (.istore_n 3) 1 25), (25, qe (.iload_n 3) 1 26), (26, qe (.iload_n 1) 1 27), (27, qx (.if_icmp .ge 18) 3 30 45 0 0), (30, qe (.iload_n 2) 1 31), (31, qe (.aload_n 0) 1 32), (32, qw (.iconst 0) 1 33 0), (33, qw (.iconst (-1)) 1 34 (-1)), (34, qx (.invokevirtual 464) 3 37 226 3 12)]), (46, [(37, qe (.iadd) 1 38), (38, qe (.istore_n 2) 1 39), (39, qw (.iinc 3 1) 3 42 1), (42, qx (.goto (-17)) 3 45 25 0 0), (45, qe (.iload_n 2) 1 46), (46, qe (.ireturn) 1 47)])]
noncomputable def mt_249 : pj_T := ((⟨"PegCoatsModel", "years", "(I)I"⟩, prog_14_method_93_code, 4, (some .int)), (12, false), mc_249)
set_option maxRecDepth 100000 in
/-- 250: PegCoatsModel.keeps()V -/
noncomputable def mc_250 : pj_M := [(19, [(0, qe (.aload_n 0) 1 1), (1, qx (.getfield 174) 3 4 12 53 0), (4, qw (.bipush 20) 2 6 20), (6, qx (.if_icmp .ne 26) 3 9 32 0 0), (9, qe (.aload_n 0) 1 10), (10, qe (.aload_n 0) 1 11), (11, qx (.getfield 171) 3 14 12 52 0), (14, qw (.iconst 1) 1 15 1), (15, qe (.iadd) 1 16), (16, qw (.bipush 20) 2 18 20), (18, qe (.irem) 1 19), (19, qx (.putfield 171) 3 22 12 52 0)]), (41, [(22, qe (.aload_n 0) 1 23), (23, qe (.dup) 1 24), (24, qx (.getfield 174) 3 27 12 53 0), (27, qw (.iconst 1) 1 28 1), (28, qe (.isub) 1 29), (29, qx (.putfield 174) 3 32 12 53 0), (32, qe (.aload_n 0) 1 33), (33, qe (.aload_n 0) 1 34), (34, qe (.aload_n 0) 1 35), (35, qx (.getfield 174) 3 38 12 53 0), (38, qx (.invokevirtual 385) 3 41 203 2 12), (41, qw (.iconst 0) 1 42 0)]), (55, [(42, qx (.invokevirtual 388) 3 45 204 3 12), (45, qe (.aload_n 0) 1 46), (46, qe (.dup) 1 47), (47, qx (.getfield 174) 3 50 12 53 0), (50, qw (.iconst 1) 1 51 1), (51, qe (.iadd) 1 52), (52, qx (.putfield 174) 3 55 12 53 0), (55, qe (.return_) 1 56)])]
noncomputable def mt_250 : pj_T := ((⟨"PegCoatsModel", "keeps", "()V"⟩, prog_14_method_48_code, 1, none), (12, false), mc_250)
set_option maxRecDepth 100000 in
/-- 251: PegCoatsModel.chance(I)I -/
noncomputable def mc_251 : pj_M := [(18, [(0, qe (.aload_n 0) 1 1), (1, qe (.iload_n 1) 1 2), (2, qw (.iconst 1) 1 3 1), (3, qw (.bipush 40) 2 5 40), (5, qx (.invokevirtual 467) 3 8 224 4 12), (8, qx (.ifCond .ne 9) 3 11 17 0 0), (11, qe (.aload_n 0) 1 12), (12, qw (.iconst 2) 1 13 2), (13, qx (.invokevirtual 216) 3 16 160 2 12), (16, qe (.ireturn) 1 17), (17, qe (.aload_n 0) 1 18), (18, qx (.invokevirtual 495) 3 21 250 1 12)]), (37, [(21, qw (.iconst 0) 1 22 0), (22, qe (.istore_n 2) 1 23), (23, qw (.iconst 0) 1 24 0), (24, qe (.istore_n 3) 1 25), (25, qe (.iload_n 3) 1 26), (26, qe (.iload_n 1) 1 27), (27, qx (.if_icmp .ge 53) 3 30 80 0 0), (30, qe (.aload_n 0) 1 31), (31, qw (.bipush 100) 2 33 100), (33, qx (.invokevirtual 506) 3 36 252 2 12), (36, qe (.aload_n 0) 1 37), (37, qx (.getfield 75) 3 40 12 21 2)]), (61, [(40, qe (.aload_n 0) 1 41), (41, qx (.getfield 51) 3 44 12 13 0), (44, qe (.iaload) 1 45), (45, qx (.if_icmp .ge 22) 3 48 67 0 0), (48, qe (.aload_n 0) 1 49), (49, qx (.getfield 54) 3 52 12 14 2), (52, qe (.aload_n 0) 1 53), (53, qx (.getfield 51) 3 56 12 13 0), (56, qe (.iaload) 1 57), (57, qx (.ifCond .le 10) 3 60 67 0 0), (60, qe (.iload_n 2) 1 61), (61, qe (.aload_n 0) 1 62)]), (81, [(62, qx (.invokevirtual 509) 3 65 253 1 12), (65, qe (.iadd) 1 66), (66, qe (.istore_n 2) 1 67), (67, qe (.aload_n 0) 1 68), (68, qw (.iconst 0) 1 69 0), (69, qw (.iconst (-1)) 1 70 (-1)), (70, qx (.invokevirtual 464) 3 73 226 3 12), (73, qe (.pop) 1 74), (74, qw (.iinc 3 1) 3 77 1), (77, qx (.goto (-52)) 3 80 25 0 0), (80, qe (.iload_n 2) 1 81), (81, qe (.ireturn) 1 82)])]
noncomputable def mt_251 : pj_T := ((⟨"PegCoatsModel", "chance", "(I)I"⟩, prog_14_method_96_code, 4, (some .int)), (12, false), mc_251)
set_option maxRecDepth 100000 in
/-- 252: PegCoatsModel.draw(I)I -/
noncomputable def mc_252 : pj_M := [(21, [(0, qe (.aload_n 0) 1 1), (1, ql (.ldc2_w 498) 3 4 1103515245), (4, qe (.aload_n 0) 1 5), (5, qx (.getfield 177) 3 8 12 54 1), (8, qe (.lmul) 1 9), (9, ql (.ldc2_w 500) 3 12 12345), (12, qe (.ladd) 1 13), (13, ql (.ldc2_w 502) 3 16 2147483648), (16, qe (.lrem) 1 17), (17, qx (.putfield 177) 3 20 12 54 1), (20, qe (.aload_n 0) 1 21), (21, qx (.getfield 177) 3 24 12 54 1)]), (32, [(24, ql (.ldc2_w 504) 3 27 64), (27, qe (.ldiv) 1 28), (28, qe (.iload_n 1) 1 29), (29, qe (.i2l) 1 30), (30, qe (.lrem) 1 31), (31, qe (.l2i) 1 32), (32, qe (.ireturn) 1 33)])]
noncomputable def mt_252 : pj_T := ((⟨"PegCoatsModel", "draw", "(I)I"⟩, prog_14_method_94_code, 2, (some .int)), (12, false), mc_252)
set_option maxRecDepth 100000 in
/-- 253: PegCoatsModel.burns()I -/
noncomputable def mc_253 : pj_M := [(19, [(0, qe (.aload_n 0) 1 1), (1, qe (.aload_n 0) 1 2), (2, qx (.getfield 54) 3 5 12 14 2), (5, qe (.aload_n 0) 1 6), (6, qx (.getfield 51) 3 9 12 13 0), (9, qe (.iaload) 1 10), (10, qx (.invokevirtual 506) 3 13 252 2 12), (13, qe (.istore_n 1) 1 14), (14, qe (.aload_n 0) 1 15), (15, qx (.getfield 144) 3 18 12 43 2), (18, qw (.iconst 0) 1 19 0), (19, qe (.iaload) 1 20)]), (37, [(20, qe (.iload_n 1) 1 21), (21, qx (.invokestatic 407) 3 24 207 2 0), (24, qx (.ifCond .eq 5) 3 27 29 0 0), (27, qw (.iconst 0) 1 28 0), (28, qe (.ireturn) 1 29), (29, qe (.aload_n 0) 1 30), (30, qw (.iconst 0) 1 31 0), (31, qe (.iload_n 1) 1 32), (32, qx (.invokevirtual 411) 3 35 209 3 12), (35, qe (.istore_n 2) 1 36), (36, qe (.iload_n 2) 1 37), (37, qw (.iconst (-1)) 1 38 (-1))]), (55, [(38, qx (.if_icmp .eq 10) 3 41 48 0 0), (41, qe (.aload_n 0) 1 42), (42, qx (.getfield 156) 3 45 12 47 2), (45, qe (.iload_n 2) 1 46), (46, qw (.iconst (-1)) 1 47 (-1)), (47, qe (.iastore) 1 48), (48, qe (.aload_n 0) 1 49), (49, qx (.getfield 144) 3 52 12 43 2), (52, qw (.iconst 0) 1 53 0), (53, qe (.dup2) 1 54), (54, qe (.iaload) 1 55), (55, qw (.iconst 1) 1 56 1)]), (61, [(56, qe (.iload_n 1) 1 57), (57, qe (.ishl) 1 58), (58, qe (.ior) 1 59), (59, qe (.iastore) 1 60), (60, qw (.iconst 1) 1 61 1), (61, qe (.ireturn) 1 62)])]
noncomputable def mt_253 : pj_T := ((⟨"PegCoatsModel", "burns", "()I"⟩, prog_14_method_95_code, 3, (some .int)), (12, false), mc_253)
end
section
set_option maxRecDepth 100000 in
/-- 254: PegCoatsModel.pass(II)Z -/
noncomputable def mc_254 : pj_M := [(21, [(0, qe (.aload_n 0) 1 1), (1, qe (.iload_n 1) 1 2), (2, qx (.invokevirtual 473) 3 5 234 2 12), (5, qx (.ifCond .eq 36) 3 8 41 0 0), (8, qe (.aload_n 0) 1 9), (9, qe (.iload_n 2) 1 10), (10, qx (.invokevirtual 473) 3 13 234 2 12), (13, qx (.ifCond .eq 28) 3 16 41 0 0), (16, qe (.iload_n 1) 1 17), (17, qe (.iload_n 2) 1 18), (18, qx (.if_icmp .eq 23) 3 21 41 0 0), (21, qe (.aload_n 0) 1 22)]), (41, [(22, qx (.getfield 156) 3 25 12 47 2), (25, qe (.iload_n 1) 1 26), (26, qe (.iaload) 1 27), (27, qw (.iconst (-1)) 1 28 (-1)), (28, qx (.if_icmp .ne 27) 3 31 55 0 0), (31, qe (.aload_n 0) 1 32), (32, qx (.getfield 156) 3 35 12 47 2), (35, qe (.iload_n 2) 1 36), (36, qe (.iaload) 1 37), (37, qw (.iconst (-1)) 1 38 (-1)), (38, qx (.if_icmp .ne 17) 3 41 55 0 0), (41, qe (.aload_n 0) 1 42)]), (61, [(42, qw (.iconst 3) 1 43 3), (43, qx (.invokevirtual 216) 3 46 160 2 12), (46, qx (.ifCond .lt 7) 3 49 53 0 0), (49, qw (.iconst 1) 1 50 1), (50, qx (.goto 4) 3 53 54 0 0), (53, qw (.iconst 0) 1 54 0), (54, qe (.ireturn) 1 55), (55, qe (.aload_n 0) 1 56), (56, qx (.invokevirtual 495) 3 59 250 1 12), (59, qe (.aload_n 0) 1 60), (60, qw (.iconst 0) 1 61 0), (61, qe (.iload_n 1) 1 62)]), (67, [(62, qe (.iload_n 2) 1 63), (63, qx (.invokevirtual 482) 3 66 241 4 12), (66, qw (.iconst 1) 1 67 1), (67, qe (.ireturn) 1 68)])]
noncomputable def mt_254 : pj_T := ((⟨"PegCoatsModel", "pass", "(II)Z"⟩, prog_14_method_97_code, 3, (some .boolean)), (12, true), mc_254)
set_option maxRecDepth 100000 in
/-- 255: PegCoatsModel.put(II)Z -/
noncomputable def mc_255 : pj_M := [(19, [(0, qe (.aload_n 0) 1 1), (1, qe (.iload_n 1) 1 2), (2, qx (.invokevirtual 473) 3 5 234 2 12), (5, qx (.ifCond .eq 30) 3 8 35 0 0), (8, qe (.aload_n 0) 1 9), (9, qx (.getfield 156) 3 12 12 47 2), (12, qe (.iload_n 1) 1 13), (13, qe (.iaload) 1 14), (14, qw (.iconst (-1)) 1 15 (-1)), (15, qx (.if_icmp .ne 20) 3 18 35 0 0), (18, qe (.aload_n 0) 1 19), (19, qe (.iload_n 2) 1 20)]), (43, [(20, qx (.invokevirtual 453) 3 23 211 2 12), (23, qx (.ifCond .eq 12) 3 26 35 0 0), (26, qe (.aload_n 0) 1 27), (27, qw (.iconst 0) 1 28 0), (28, qe (.iload_n 2) 1 29), (29, qx (.invokevirtual 427) 3 32 208 3 12), (32, qx (.ifCond .ne 17) 3 35 49 0 0), (35, qe (.aload_n 0) 1 36), (36, qw (.iconst 3) 1 37 3), (37, qx (.invokevirtual 216) 3 40 160 2 12), (40, qx (.ifCond .lt 7) 3 43 47 0 0), (43, qw (.iconst 1) 1 44 1)]), (61, [(44, qx (.goto 4) 3 47 48 0 0), (47, qw (.iconst 0) 1 48 0), (48, qe (.ireturn) 1 49), (49, qe (.aload_n 0) 1 50), (50, qx (.invokevirtual 495) 3 53 250 1 12), (53, qe (.aload_n 0) 1 54), (54, qw (.iconst 0) 1 55 0), (55, qe (.iload_n 1) 1 56), (56, qe (.iload_n 2) 1 57), (57, qx (.invokevirtual 443) 3 60 230 4 12), (60, qw (.iconst 1) 1 61 1), (61, qe (.ireturn) 1 62)])]
noncomputable def mt_255 : pj_T := ((⟨"PegCoatsModel", "put", "(II)Z"⟩, prog_14_method_98_code, 3, (some .boolean)), (12, true), mc_255)
set_option maxRecDepth 100000 in
/-- 256: PegCoatsModel.hang(I)Z -/
noncomputable def mc_256 : pj_M := [(19, [(0, qe (.aload_n 0) 1 1), (1, qe (.iload_n 1) 1 2), (2, qx (.invokevirtual 450) 3 5 212 2 12), (5, qx (.ifCond .eq 13) 3 8 18 0 0), (8, qe (.aload_n 0) 1 9), (9, qx (.getfield 156) 3 12 12 47 2), (12, qe (.iload_n 1) 1 13), (13, qe (.iaload) 1 14), (14, qw (.iconst (-1)) 1 15 (-1)), (15, qx (.if_icmp .ne 17) 3 18 32 0 0), (18, qe (.aload_n 0) 1 19), (19, qw (.iconst 3) 1 20 3)]), (41, [(20, qx (.invokevirtual 216) 3 23 160 2 12), (23, qx (.ifCond .lt 7) 3 26 30 0 0), (26, qw (.iconst 1) 1 27 1), (27, qx (.goto 4) 3 30 31 0 0), (30, qw (.iconst 0) 1 31 0), (31, qe (.ireturn) 1 32), (32, qe (.aload_n 0) 1 33), (33, qx (.invokevirtual 495) 3 36 250 1 12), (36, qe (.aload_n 0) 1 37), (37, qx (.getfield 156) 3 40 12 47 2), (40, qe (.iload_n 1) 1 41), (41, qw (.iconst (-1)) 1 42 (-1))]), (44, [(42, qe (.iastore) 1 43), (43, qw (.iconst 1) 1 44 1), (44, qe (.ireturn) 1 45)])]
noncomputable def mt_256 : pj_T := ((⟨"PegCoatsModel", "hang", "(I)Z"⟩, prog_14_method_99_code, 2, (some .boolean)), (12, true), mc_256)
set_option maxRecDepth 100000 in
/-- 257: PegCoatsModel.seed(I)Z -/
noncomputable def mc_257 : pj_M := [(19, [(0, qe (.iload_n 1) 1 1), (1, qx (.ifCond .ge 17) 3 4 18 0 0), (4, qe (.aload_n 0) 1 5), (5, qw (.iconst 5) 1 6 5), (6, qx (.invokevirtual 216) 3 9 160 2 12), (9, qx (.ifCond .lt 7) 3 12 16 0 0), (12, qw (.iconst 1) 1 13 1), (13, qx (.goto 4) 3 16 17 0 0), (16, qw (.iconst 0) 1 17 0), (17, qe (.ireturn) 1 18), (18, qe (.aload_n 0) 1 19), (19, qe (.iload_n 1) 1 20)]), (25, [(20, qe (.i2l) 1 21), (21, qx (.putfield 177) 3 24 12 54 1), (24, qw (.iconst 1) 1 25 1), (25, qe (.ireturn) 1 26)])]
noncomputable def mt_257 : pj_T := ((⟨"PegCoatsModel", "seed", "(I)Z"⟩, prog_14_method_100_code, 2, (some .boolean)), (12, true), mc_257)
set_option maxRecDepth 100000 in
/-- 258: PegCoatsModel.kept(II)I -/
noncomputable def mc_258 : pj_M := [(17, [(0, qe (.iload_n 1) 1 1), (1, qw (.iconst 0) 1 2 0), (2, qe (.aload_n 0) 1 3), (3, qx (.getfield 165) 3 6 12 50 2), (6, qw (.iconst 0) 1 7 0), (7, qe (.iaload) 1 8), (8, qw (.iconst 1) 1 9 1), (9, qe (.isub) 1 10), (10, qx (.invokestatic 288) 3 13 179 3 0), (13, qx (.ifCond .eq 25) 3 16 38 0 0), (16, qe (.iload_n 2) 1 17), (17, qw (.iconst 0) 1 18 0)]), (35, [(18, qw (.iconst 2) 1 19 2), (19, qx (.invokestatic 288) 3 22 179 3 0), (22, qx (.ifCond .eq 16) 3 25 38 0 0), (25, qe (.aload_n 0) 1 26), (26, qx (.getfield 168) 3 29 12 51 2), (29, qw (.iconst 3) 1 30 3), (30, qe (.iload_n 1) 1 31), (31, qe (.imul) 1 32), (32, qe (.iload_n 2) 1 33), (33, qe (.iadd) 1 34), (34, qe (.iaload) 1 35), (35, qx (.goto 4) 3 38 39 0 0)]), (39, [(38, qw (.iconst (-1)) 1 39 (-1)), (39, qe (.ireturn) 1 40)])]
noncomputable def mt_258 : pj_T := ((⟨"PegCoatsModel", "kept", "(II)I"⟩, prog_14_method_101_code, 3, (some .int)), (12, false), mc_258)
set_option maxRecDepth 100000 in
/-- 259: PegCoatsModel.image()I -/
noncomputable def mc_259 : pj_M := [(18, [(0, qe (.aload_n 0) 1 1), (1, qw (.iconst 0) 1 2 0), (2, qx (.putfield 213) 3 5 12 66 0), (5, qe (.aload_n 0) 1 6), (6, qe (.aload_n 0) 1 7), (7, qx (.getfield 141) 3 10 12 42 2), (10, qw (.iconst 0) 1 11 0), (11, qe (.iaload) 1 12), (12, qw (.bipush 8) 2 14 8), (14, qe (.ishr) 1 15), (15, qx (.invokevirtual 513) 3 18 260 2 12), (18, qe (.aload_n 0) 1 19)]), (36, [(19, qe (.aload_n 0) 1 20), (20, qx (.getfield 141) 3 23 12 42 2), (23, qw (.iconst 0) 1 24 0), (24, qe (.iaload) 1 25), (25, qx (.invokevirtual 513) 3 28 260 2 12), (28, qw (.iconst 0) 1 29 0), (29, qe (.istore_n 1) 1 30), (30, qe (.iload_n 1) 1 31), (31, qe (.aload_n 0) 1 32), (32, qx (.getfield 54) 3 35 12 14 2), (35, qe (.aload_n 0) 1 36), (36, qx (.getfield 51) 3 39 12 13 0)]), (58, [(39, qe (.iaload) 1 40), (40, qx (.if_icmp .ge 41) 3 43 81 0 0), (43, qe (.aload_n 0) 1 44), (44, qe (.aload_n 0) 1 45), (45, qx (.getfield 144) 3 48 12 43 2), (48, qw (.iconst 0) 1 49 0), (49, qe (.iaload) 1 50), (50, qe (.iload_n 1) 1 51), (51, qx (.invokestatic 407) 3 54 207 2 0), (54, qx (.ifCond .eq 7) 3 57 61 0 0), (57, qw (.iconst 1) 1 58 1), (58, qx (.goto 4) 3 61 62 0 0)]), (82, [(61, qw (.iconst 0) 1 62 0), (62, qx (.invokevirtual 513) 3 65 260 2 12), (65, qe (.aload_n 0) 1 66), (66, qe (.aload_n 0) 1 67), (67, qx (.getfield 147) 3 70 12 44 2), (70, qe (.iload_n 1) 1 71), (71, qe (.iaload) 1 72), (72, qx (.invokevirtual 513) 3 75 260 2 12), (75, qw (.iinc 1 1) 3 78 1), (78, qx (.goto (-48)) 3 81 30 0 0), (81, qw (.iconst 0) 1 82 0), (82, qe (.istore_n 1) 1 83)]), (102, [(83, qe (.iload_n 1) 1 84), (84, qe (.aload_n 0) 1 85), (85, qx (.getfield 63) 3 88 12 17 2), (88, qe (.aload_n 0) 1 89), (89, qx (.getfield 51) 3 92 12 13 0), (92, qe (.iaload) 1 93), (93, qx (.if_icmp .ge 80) 3 96 173 0 0), (96, qe (.aload_n 0) 1 97), (97, qe (.aload_n 0) 1 98), (98, qx (.getfield 150) 3 101 12 45 2), (101, qe (.iload_n 1) 1 102), (102, qe (.iaload) 1 103)]), (122, [(103, qx (.invokevirtual 513) 3 106 260 2 12), (106, qe (.aload_n 0) 1 107), (107, qe (.aload_n 0) 1 108), (108, qx (.getfield 153) 3 111 12 46 2), (111, qe (.iload_n 1) 1 112), (112, qe (.iaload) 1 113), (113, qx (.invokevirtual 513) 3 116 260 2 12), (116, qe (.aload_n 0) 1 117), (117, qe (.aload_n 0) 1 118), (118, qx (.getfield 156) 3 121 12 47 2), (121, qe (.iload_n 1) 1 122), (122, qe (.iaload) 1 123)]), (141, [(123, qx (.invokevirtual 513) 3 126 260 2 12), (126, qe (.aload_n 0) 1 127), (127, qe (.aload_n 0) 1 128), (128, qx (.getfield 159) 3 131 12 48 2), (131, qe (.iload_n 1) 1 132), (132, qe (.iaload) 1 133), (133, qw (.bipush 8) 2 135 8), (135, qe (.ishr) 1 136), (136, qx (.invokevirtual 513) 3 139 260 2 12), (139, qe (.aload_n 0) 1 140), (140, qe (.aload_n 0) 1 141), (141, qx (.getfield 159) 3 144 12 48 2)]), (163, [(144, qe (.iload_n 1) 1 145), (145, qe (.iaload) 1 146), (146, qx (.invokevirtual 513) 3 149 260 2 12), (149, qe (.aload_n 0) 1 150), (150, qe (.aload_n 0) 1 151), (151, qw (.iconst 0) 1 152 0), (152, qe (.iload_n 1) 1 153), (153, qx (.invokevirtual 430) 3 156 206 3 12), (156, qx (.ifCond .eq 7) 3 159 163 0 0), (159, qw (.iconst 1) 1 160 1), (160, qx (.goto 4) 3 163 164 0 0), (163, qw (.iconst 0) 1 164 0)]), (187, [(164, qx (.invokevirtual 513) 3 167 260 2 12), (167, qw (.iinc 1 1) 3 170 1), (170, qx (.goto (-87)) 3 173 83 0 0), (173, qw (.sipush 233) 3 176 233), (176, qe (.istore_n 1) 1 177), (177, qw (.iconst 0) 1 178 0), (178, qe (.istore_n 2) 1 179), (179, qe (.iload_n 2) 1 180), (180, qe (.aload_n 0) 1 181), (181, qx (.getfield 213) 3 184 12 66 0), (184, qx (.if_icmp .ge 24) 3 187 208 0 0), (187, qw (.iconst 5) 1 188 5)]), (205, [(188, qe (.iload_n 1) 1 189), (189, qe (.imul) 1 190), (190, qe (.aload_n 0) 1 191), (191, qx (.getfield 210) 3 194 12 65 2), (194, qe (.iload_n 2) 1 195), (195, qe (.iaload) 1 196), (196, qe (.iadd) 1 197), (197, qw (.sipush 251) 3 200 251), (200, qe (.irem) 1 201), (201, qe (.istore_n 1) 1 202), (202, qw (.iinc 2 1) 3 205 1), (205, qx (.goto (-26)) 3 208 179 0 0)]), (217, [(208, qe (.aload_n 0) 1 209), (209, qe (.iload_n 1) 1 210), (210, qx (.invokevirtual 513) 3 213 260 2 12), (213, qe (.aload_n 0) 1 214), (214, qx (.getfield 213) 3 217 12 66 0), (217, qe (.ireturn) 1 218)])]
noncomputable def mt_259 : pj_T := ((⟨"PegCoatsModel", "image", "()I"⟩, prog_14_method_103_code, 3, (some .int)), (12, false), mc_259)
set_option maxRecDepth 100000 in
/-- 260: PegCoatsModel.writes(I)V -/
noncomputable def mc_260 : pj_M := [(19, [(0, qe (.aload_n 0) 1 1), (1, qx (.getfield 210) 3 4 12 65 2), (4, qe (.aload_n 0) 1 5), (5, qx (.getfield 213) 3 8 12 66 0), (8, qe (.iload_n 1) 1 9), (9, qw (.sipush 255) 3 12 255), (12, qe (.iand) 1 13), (13, qe (.iastore) 1 14), (14, qe (.aload_n 0) 1 15), (15, qe (.dup) 1 16), (16, qx (.getfield 213) 3 19 12 66 0), (19, qw (.iconst 1) 1 20 1)]), (24, [(20, qe (.iadd) 1 21), (21, qx (.putfield 213) 3 24 12 66 0), (24, qe (.return_) 1 25)])]
noncomputable def mt_260 : pj_T := ((⟨"PegCoatsModel", "writes", "(I)V"⟩, prog_14_method_102_code, 2, none), (12, false), mc_260)
set_option maxRecDepth 100000 in
/-- 261: PegCoatsModel.octet(I)I -/
noncomputable def mc_261 : pj_M := [(19, [(0, qe (.iload_n 1) 1 1), (1, qw (.iconst 0) 1 2 0), (2, qe (.aload_n 0) 1 3), (3, qx (.getfield 213) 3 6 12 66 0), (6, qw (.iconst 1) 1 7 1), (7, qe (.isub) 1 8), (8, qx (.invokestatic 288) 3 11 179 3 0), (11, qx (.ifCond .eq 12) 3 14 23 0 0), (14, qe (.aload_n 0) 1 15), (15, qx (.getfield 210) 3 18 12 65 2), (18, qe (.iload_n 1) 1 19), (19, qe (.iaload) 1 20)]), (24, [(20, qx (.goto 4) 3 23 24 0 0), (23, qw (.iconst (-1)) 1 24 (-1)), (24, qe (.ireturn) 1 25)])]
noncomputable def mt_261 : pj_T := ((⟨"PegCoatsModel", "octet", "(I)I"⟩, prog_14_method_104_code, 2, (some .int)), (12, false), mc_261)
set_option maxRecDepth 100000 in
/-- 262: PegCoatsModel.on()Z -/
noncomputable def mc_262 : pj_M := [(19, [(0, qe (.aload_n 0) 1 1), (1, qx (.getfield 13) 3 4 12 1 0), (4, qe (.istore_n 1) 1 5), (5, qe (.aload_n 0) 1 6), (6, qw (.iconst 0) 1 7 0), (7, qx (.putfield 13) 3 10 12 1 0), (10, qe (.aload_n 0) 1 11), (11, qe (.iload_n 1) 1 12), (12, qx (.invokevirtual 519) 3 15 263 2 12), (15, qx (.ifCond .ne 17) 3 18 32 0 0), (18, qe (.aload_n 0) 1 19), (19, qw (.iconst 5) 1 20 5)]), (39, [(20, qx (.invokevirtual 216) 3 23 160 2 12), (23, qx (.ifCond .lt 7) 3 26 30 0 0), (26, qw (.iconst 1) 1 27 1), (27, qx (.goto 4) 3 30 31 0 0), (30, qw (.iconst 0) 1 31 0), (31, qe (.ireturn) 1 32), (32, qe (.aload_n 0) 1 33), (33, qw (.iconst 0) 1 34 0), (34, qw (.iconst 1) 1 35 1), (35, qx (.invokevirtual 388) 3 38 204 3 12), (38, qe (.aload_n 0) 1 39), (39, qw (.iconst 0) 1 40 0)]), (44, [(40, qx (.putfield 174) 3 43 12 53 0), (43, qw (.iconst 1) 1 44 1), (44, qe (.ireturn) 1 45)])]
noncomputable def mt_262 : pj_T := ((⟨"PegCoatsModel", "on", "()Z"⟩, prog_14_method_107_code, 2, (some .boolean)), (12, true), mc_262)
set_option maxRecDepth 100000 in
/-- 263: PegCoatsModel.comesOn(I)Z -/
noncomputable def mc_263 : pj_M := [(15, [(0, qw (.iconst 2) 1 1 2), (1, qw (.iconst 2) 1 2 2), (2, qe (.aload_n 0) 1 3), (3, qx (.getfield 54) 3 6 12 14 2), (6, qe (.aload_n 0) 1 7), (7, qx (.getfield 51) 3 10 12 13 0), (10, qe (.iaload) 1 11), (11, qe (.imul) 1 12), (12, qe (.iadd) 1 13), (13, qe (.istore_n 2) 1 14), (14, qe (.iload_n 1) 1 15), (15, qe (.iload_n 2) 1 16)]), (34, [(16, qw (.bipush 6) 2 18 6), (18, qe (.aload_n 0) 1 19), (19, qx (.getfield 63) 3 22 12 17 2), (22, qe (.aload_n 0) 1 23), (23, qx (.getfield 51) 3 26 12 13 0), (26, qe (.iaload) 1 27), (27, qe (.imul) 1 28), (28, qe (.iadd) 1 29), (29, qw (.iconst 1) 1 30 1), (30, qe (.iadd) 1 31), (31, qx (.if_icmp .ne 25) 3 34 56 0 0), (34, qe (.aload_n 0) 1 35)]), (53, [(35, qx (.getfield 7) 3 38 12 0 2), (38, qw (.iconst 0) 1 39 0), (39, qe (.iaload) 1 40), (40, qw (.bipush 8) 2 42 8), (42, qe (.ishl) 1 43), (43, qe (.aload_n 0) 1 44), (44, qx (.getfield 7) 3 47 12 0 2), (47, qw (.iconst 1) 1 48 1), (48, qe (.iaload) 1 49), (49, qe (.ior) 1 50), (50, qw (.sipush 999) 3 53 999), (53, qx (.if_icmp .le 5) 3 56 58 0 0)]), (73, [(56, qw (.iconst 0) 1 57 0), (57, qe (.ireturn) 1 58), (58, qw (.sipush 233) 3 61 233), (61, qe (.istore_n 3) 1 62), (62, qw (.iconst 0) 1 63 0), (63, qe (.istore 4) 2 65), (65, qe (.iload 4) 2 67), (67, qe (.iload_n 1) 1 68), (68, qw (.iconst 1) 1 69 1), (69, qe (.isub) 1 70), (70, qx (.if_icmp .ge 25) 3 73 95 0 0), (73, qw (.iconst 5) 1 74 5)]), (92, [(74, qe (.iload_n 3) 1 75), (75, qe (.imul) 1 76), (76, qe (.aload_n 0) 1 77), (77, qx (.getfield 7) 3 80 12 0 2), (80, qe (.iload 4) 2 82), (82, qe (.iaload) 1 83), (83, qe (.iadd) 1 84), (84, qw (.sipush 251) 3 87 251), (87, qe (.irem) 1 88), (88, qe (.istore_n 3) 1 89), (89, qw (.iinc 4 1) 3 92 1), (92, qx (.goto (-27)) 3 95 65 0 0)]), (110, [(95, qe (.aload_n 0) 1 96), (96, qx (.getfield 7) 3 99 12 0 2), (99, qe (.iload_n 1) 1 100), (100, qw (.iconst 1) 1 101 1), (101, qe (.isub) 1 102), (102, qe (.iaload) 1 103), (103, qe (.iload_n 3) 1 104), (104, qx (.if_icmp .eq 5) 3 107 109 0 0), (107, qw (.iconst 0) 1 108 0), (108, qe (.ireturn) 1 109), (109, qe (.aload_n 0) 1 110), (110, qw (.iconst 1) 1 111 1)]), (129, [(111, qw (.iconst 0) 1 112 0), (112, qx (.invokevirtual 388) 3 115 204 3 12), (115, qe (.aload_n 0) 1 116), (116, qx (.getfield 141) 3 119 12 42 2), (119, qw (.iconst 1) 1 120 1), (120, qe (.aload_n 0) 1 121), (121, qx (.getfield 7) 3 124 12 0 2), (124, qw (.iconst 0) 1 125 0), (125, qe (.iaload) 1 126), (126, qw (.bipush 8) 2 128 8), (128, qe (.ishl) 1 129), (129, qe (.aload_n 0) 1 130)]), (145, [(130, qx (.getfield 7) 3 133 12 0 2), (133, qw (.iconst 1) 1 134 1), (134, qe (.iaload) 1 135), (135, qe (.ior) 1 136), (136, qe (.iastore) 1 137), (137, qe (.aload_n 0) 1 138), (138, qx (.getfield 144) 3 141 12 43 2), (141, qw (.iconst 1) 1 142 1), (142, qw (.iconst 0) 1 143 0), (143, qe (.iastore) 1 144), (144, qe (.aload_n 0) 1 145), (145, qx (.getfield 162) 3 148 12 49 2)]), (163, [(148, qw (.iconst 1) 1 149 1), (149, qw (.iconst 0) 1 150 0), (150, qe (.iastore) 1 151), (151, qe (.aload_n 0) 1 152), (152, qx (.getfield 165) 3 155 12 50 2), (155, qw (.iconst 1) 1 156 1), (156, qw (.iconst 0) 1 157 0), (157, qe (.iastore) 1 158), (158, qw (.iconst 0) 1 159 0), (159, qe (.istore 4) 2 161), (161, qe (.iload 4) 2 163), (163, qe (.aload_n 0) 1 164)]), (184, [(164, qx (.getfield 54) 3 167 12 14 2), (167, qe (.aload_n 0) 1 168), (168, qx (.getfield 51) 3 171 12 13 0), (171, qe (.iaload) 1 172), (172, qx (.if_icmp .ge 86) 3 175 258 0 0), (175, qe (.aload_n 0) 1 176), (176, qx (.getfield 7) 3 179 12 0 2), (179, qw (.iconst 2) 1 180 2), (180, qw (.iconst 2) 1 181 2), (181, qe (.iload 4) 2 183), (183, qe (.imul) 1 184), (184, qe (.iadd) 1 185)]), (201, [(185, qe (.iaload) 1 186), (186, qw (.iconst 1) 1 187 1), (187, qx (.if_icmp .gt 19) 3 190 206 0 0), (190, qe (.aload_n 0) 1 191), (191, qx (.getfield 7) 3 194 12 0 2), (194, qw (.iconst 3) 1 195 3), (195, qw (.iconst 2) 1 196 2), (196, qe (.iload 4) 2 198), (198, qe (.imul) 1 199), (199, qe (.iadd) 1 200), (200, qe (.iaload) 1 201), (201, qw (.bipush 99) 2 203 99)]), (220, [(203, qx (.if_icmp .le 5) 3 206 208 0 0), (206, qw (.iconst 0) 1 207 0), (207, qe (.ireturn) 1 208), (208, qe (.aload_n 0) 1 209), (209, qx (.getfield 144) 3 212 12 43 2), (212, qw (.iconst 1) 1 213 1), (213, qe (.dup2) 1 214), (214, qe (.iaload) 1 215), (215, qe (.aload_n 0) 1 216), (216, qx (.getfield 7) 3 219 12 0 2), (219, qw (.iconst 2) 1 220 2), (220, qw (.iconst 2) 1 221 2)]), (237, [(221, qe (.iload 4) 2 223), (223, qe (.imul) 1 224), (224, qe (.iadd) 1 225), (225, qe (.iaload) 1 226), (226, qe (.iload 4) 2 228), (228, qe (.ishl) 1 229), (229, qe (.ior) 1 230), (230, qe (.iastore) 1 231), (231, qe (.aload_n 0) 1 232), (232, qx (.getfield 147) 3 235 12 44 2), (235, qw (.bipush 8) 2 237 8), (237, qe (.iload 4) 2 239)]), (255, [(239, qe (.iadd) 1 240), (240, qe (.aload_n 0) 1 241), (241, qx (.getfield 7) 3 244 12 0 2), (244, qw (.iconst 3) 1 245 3), (245, qw (.iconst 2) 1 246 2), (246, qe (.iload 4) 2 248), (248, qe (.imul) 1 249), (249, qe (.iadd) 1 250), (250, qe (.iaload) 1 251), (251, qe (.iastore) 1 252), (252, qw (.iinc 4 1) 3 255 1), (255, qx (.goto (-94)) 3 258 161 0 0)]), (278, [(258, qw (.iconst 0) 1 259 0), (259, qe (.istore 4) 2 261), (261, qe (.iload 4) 2 263), (263, qe (.aload_n 0) 1 264), (264, qx (.getfield 63) 3 267 12 17 2), (267, qe (.aload_n 0) 1 268), (268, qx (.getfield 51) 3 271 12 13 0), (271, qe (.iaload) 1 272), (272, qx (.if_icmp .ge 27) 3 275 299 0 0), (275, qe (.aload_n 0) 1 276), (276, qe (.iload 4) 2 278), (278, qe (.iload_n 2) 1 279)]), (300, [(279, qw (.bipush 6) 2 281 6), (281, qe (.iload 4) 2 283), (283, qe (.imul) 1 284), (284, qe (.iadd) 1 285), (285, qx (.invokevirtual 516) 3 288 264 3 12), (288, qx (.ifCond .ne 5) 3 291 293 0 0), (291, qw (.iconst 0) 1 292 0), (292, qe (.ireturn) 1 293), (293, qw (.iinc 4 1) 3 296 1), (296, qx (.goto (-35)) 3 299 261 0 0), (299, qw (.iconst 1) 1 300 1), (300, qe (.ireturn) 1 301)])]
noncomputable def mt_263 : pj_T := ((⟨"PegCoatsModel", "comesOn", "(I)Z"⟩, prog_14_method_106_code, 5, (some .boolean)), (12, true), mc_263)
set_option maxRecDepth 100000 in
/-- 264: PegCoatsModel.manOn(II)Z -/
noncomputable def mc_264 : pj_M := [(16, [(0, qw (.bipush 7) 2 2 7), (2, qe (.iload_n 1) 1 3), (3, qe (.iadd) 1 4), (4, qe (.istore_n 3) 1 5), (5, qe (.aload_n 0) 1 6), (6, qx (.getfield 7) 3 9 12 0 2), (9, qe (.iload_n 2) 1 10), (10, qw (.iconst 2) 1 11 2), (11, qe (.iadd) 1 12), (12, qe (.iaload) 1 13), (13, qw (.sipush 255) 3 16 255), (16, qx (.if_icmp .ne 7) 3 19 23 0 0)]), (37, [(19, qw (.iconst (-1)) 1 20 (-1)), (20, qx (.goto 11) 3 23 31 0 0), (23, qe (.aload_n 0) 1 24), (24, qx (.getfield 7) 3 27 12 0 2), (27, qe (.iload_n 2) 1 28), (28, qw (.iconst 2) 1 29 2), (29, qe (.iadd) 1 30), (30, qe (.iaload) 1 31), (31, qe (.istore 4) 2 33), (33, qe (.aload_n 0) 1 34), (34, qx (.getfield 7) 3 37 12 0 2), (37, qe (.iload_n 2) 1 38)]), (56, [(38, qe (.iaload) 1 39), (39, qw (.iconst 1) 1 40 1), (40, qw (.bipush 99) 2 42 99), (42, qx (.invokestatic 288) 3 45 179 3 0), (45, qx (.ifCond .eq 28) 3 48 73 0 0), (48, qe (.aload_n 0) 1 49), (49, qx (.getfield 7) 3 52 12 0 2), (52, qe (.iload_n 2) 1 53), (53, qw (.iconst 1) 1 54 1), (54, qe (.iadd) 1 55), (55, qe (.iaload) 1 56), (56, qw (.bipush 99) 2 58 99)]), (75, [(58, qx (.if_icmp .gt 15) 3 61 73 0 0), (61, qe (.aload_n 0) 1 62), (62, qx (.getfield 7) 3 65 12 0 2), (65, qe (.iload_n 2) 1 66), (66, qw (.iconst 5) 1 67 5), (67, qe (.iadd) 1 68), (68, qe (.iaload) 1 69), (69, qw (.iconst 1) 1 70 1), (70, qx (.if_icmp .le 5) 3 73 75 0 0), (73, qw (.iconst 0) 1 74 0), (74, qe (.ireturn) 1 75), (75, qe (.iload 4) 2 77)]), (98, [(77, qw (.iconst (-1)) 1 78 (-1)), (78, qx (.if_icmp .eq 39) 3 81 117 0 0), (81, qe (.aload_n 0) 1 82), (82, qe (.iload 4) 2 84), (84, qx (.invokevirtual 453) 3 87 211 2 12), (87, qx (.ifCond .eq 28) 3 90 115 0 0), (90, qe (.aload_n 0) 1 91), (91, qx (.getfield 144) 3 94 12 43 2), (94, qw (.iconst 1) 1 95 1), (95, qe (.iaload) 1 96), (96, qe (.iload 4) 2 98), (98, qx (.invokestatic 407) 3 101 207 2 0)]), (118, [(101, qx (.ifCond .ne 14) 3 104 115 0 0), (104, qe (.aload_n 0) 1 105), (105, qx (.getfield 7) 3 108 12 0 2), (108, qe (.iload_n 2) 1 109), (109, qw (.iconst 5) 1 110 5), (110, qe (.iadd) 1 111), (111, qe (.iaload) 1 112), (112, qx (.ifCond .ne 5) 3 115 117 0 0), (115, qw (.iconst 0) 1 116 0), (116, qe (.ireturn) 1 117), (117, qw (.iconst 0) 1 118 0), (118, qe (.istore 5) 2 120)]), (141, [(120, qe (.iload 5) 2 122), (122, qe (.iload_n 1) 1 123), (123, qx (.if_icmp .ge 32) 3 126 155 0 0), (126, qe (.iload 4) 2 128), (128, qw (.iconst (-1)) 1 129 (-1)), (129, qx (.if_icmp .eq 20) 3 132 149 0 0), (132, qe (.aload_n 0) 1 133), (133, qx (.getfield 156) 3 136 12 47 2), (136, qw (.bipush 7) 2 138 7), (138, qe (.iload 5) 2 140), (140, qe (.iadd) 1 141), (141, qe (.iaload) 1 142)]), (164, [(142, qe (.iload 4) 2 144), (144, qx (.if_icmp .ne 5) 3 147 149 0 0), (147, qw (.iconst 0) 1 148 0), (148, qe (.ireturn) 1 149), (149, qw (.iinc 5 1) 3 152 1), (152, qx (.goto (-32)) 3 155 120 0 0), (155, qe (.aload_n 0) 1 156), (156, qx (.getfield 150) 3 159 12 45 2), (159, qe (.iload_n 3) 1 160), (160, qe (.aload_n 0) 1 161), (161, qx (.getfield 7) 3 164 12 0 2), (164, qe (.iload_n 2) 1 165)]), (180, [(165, qe (.iaload) 1 166), (166, qe (.iastore) 1 167), (167, qe (.aload_n 0) 1 168), (168, qx (.getfield 153) 3 171 12 46 2), (171, qe (.iload_n 3) 1 172), (172, qe (.aload_n 0) 1 173), (173, qx (.getfield 7) 3 176 12 0 2), (176, qe (.iload_n 2) 1 177), (177, qw (.iconst 1) 1 178 1), (178, qe (.iadd) 1 179), (179, qe (.iaload) 1 180), (180, qe (.iastore) 1 181)]), (199, [(181, qe (.aload_n 0) 1 182), (182, qx (.getfield 156) 3 185 12 47 2), (185, qe (.iload_n 3) 1 186), (186, qe (.iload 4) 2 188), (188, qe (.iastore) 1 189), (189, qe (.aload_n 0) 1 190), (190, qx (.getfield 159) 3 193 12 48 2), (193, qe (.iload_n 3) 1 194), (194, qe (.aload_n 0) 1 195), (195, qx (.getfield 7) 3 198 12 0 2), (198, qe (.iload_n 2) 1 199), (199, qw (.iconst 3) 1 200 3)]), (214, [(200, qe (.iadd) 1 201), (201, qe (.iaload) 1 202), (202, qw (.bipush 8) 2 204 8), (204, qe (.ishl) 1 205), (205, qe (.aload_n 0) 1 206), (206, qx (.getfield 7) 3 209 12 0 2), (209, qe (.iload_n 2) 1 210), (210, qw (.iconst 4) 1 211 4), (211, qe (.iadd) 1 212), (212, qe (.iaload) 1 213), (213, qe (.ior) 1 214), (214, qe (.iastore) 1 215)]), (230, [(215, qe (.aload_n 0) 1 216), (216, qx (.getfield 162) 3 219 12 49 2), (219, qw (.iconst 1) 1 220 1), (220, qe (.dup2) 1 221), (221, qe (.iaload) 1 222), (222, qe (.aload_n 0) 1 223), (223, qx (.getfield 7) 3 226 12 0 2), (226, qe (.iload_n 2) 1 227), (227, qw (.iconst 5) 1 228 5), (228, qe (.iadd) 1 229), (229, qe (.iaload) 1 230), (230, qx (.ifCond .ne 9) 3 233 239 0 0)]), (248, [(233, qw (.iconst 1) 1 234 1), (234, qe (.iload_n 1) 1 235), (235, qe (.ishl) 1 236), (236, qx (.goto 4) 3 239 240 0 0), (239, qw (.iconst 0) 1 240 0), (240, qe (.ior) 1 241), (241, qe (.iastore) 1 242), (242, qe (.aload_n 0) 1 243), (243, qx (.getfield 159) 3 246 12 48 2), (246, qe (.iload_n 3) 1 247), (247, qe (.iaload) 1 248), (248, qw (.sipush 9999) 3 251 9999)]), (259, [(251, qx (.if_icmp .gt 7) 3 254 258 0 0), (254, qw (.iconst 1) 1 255 1), (255, qx (.goto 4) 3 258 259 0 0), (258, qw (.iconst 0) 1 259 0), (259, qe (.ireturn) 1 260)])]
noncomputable def mt_264 : pj_T := ((⟨"PegCoatsModel", "manOn", "(II)Z"⟩, prog_14_method_105_code, 6, (some .boolean)), (12, true), mc_264)
set_option maxRecDepth 100000 in
/-- 265: java/lang/Integer.bitCount(I)I -/
noncomputable def mc_265 : pj_M := [(15, [(0, qe (.iload_n 0) 1 1), (1, qe (.iload_n 0) 1 2), (2, qw (.iconst 1) 1 3 1), (3, qe (.iushr) 1 4), (4, qw (.ldc_w 265) 3 7 1431655765), (7, qe (.iand) 1 8), (8, qe (.isub) 1 9), (9, qe (.istore_n 0) 1 10), (10, qe (.iload_n 0) 1 11), (11, qw (.ldc_w 266) 3 14 858993459), (14, qe (.iand) 1 15), (15, qe (.iload_n 0) 1 16)]), (29, [(16, qw (.iconst 2) 1 17 2), (17, qe (.iushr) 1 18), (18, qw (.ldc_w 266) 3 21 858993459), (21, qe (.iand) 1 22), (22, qe (.iadd) 1 23), (23, qe (.istore_n 0) 1 24), (24, qe (.iload_n 0) 1 25), (25, qe (.iload_n 0) 1 26), (26, qw (.iconst 4) 1 27 4), (27, qe (.iushr) 1 28), (28, qe (.iadd) 1 29), (29, qw (.ldc_w 267) 3 32 252645135)]), (45, [(32, qe (.iand) 1 33), (33, qe (.istore_n 0) 1 34), (34, qe (.iload_n 0) 1 35), (35, qe (.iload_n 0) 1 36), (36, qw (.bipush 8) 2 38 8), (38, qe (.iushr) 1 39), (39, qe (.iadd) 1 40), (40, qe (.istore_n 0) 1 41), (41, qe (.iload_n 0) 1 42), (42, qe (.iload_n 0) 1 43), (43, qw (.bipush 16) 2 45 16), (45, qe (.iushr) 1 46)]), (52, [(46, qe (.iadd) 1 47), (47, qe (.istore_n 0) 1 48), (48, qe (.iload_n 0) 1 49), (49, qw (.bipush 63) 2 51 63), (51, qe (.iand) 1 52), (52, qe (.ireturn) 1 53)])]
noncomputable def mt_265 : pj_T := ((⟨"java/lang/Integer", "bitCount", "(I)I"⟩, prog_15_method_49_code, 1, (some .int)), (14, false), mc_265)
end
section
/-! the cells behind the two constructors: kinds, lengths, references (0 is the script of n ints) -/
def zK (k : Nat) : Nat := (bif Nat.blt k 319 then (bif Nat.blt k 159 then (bif Nat.blt k 79 then (bif Nat.blt k 39 then (bif Nat.blt k 19 then (bif Nat.blt k 9 then (bif Nat.blt k 4 then (bif Nat.blt k 2 then (bif Nat.blt k 1 then 18 else 19) else (bif Nat.blt k 3 then 11 else 8)) else (bif Nat.blt k 6 then (bif Nat.blt k 5 then 13 else 10) else 13)) else (bif Nat.blt k 14 then 13 else (bif Nat.blt k 16 then 13 else (bif Nat.blt k 17 then 13 else (bif Nat.blt k 18 then 13 else 10))))) else (bif Nat.blt k 29 then 13 else (bif Nat.blt k 34 then (bif Nat.blt k 31 then 13 else (bif Nat.blt k 32 then 5 else (bif Nat.blt k 33 then 6 else 13))) else (bif Nat.blt k 36 then (bif Nat.blt k 35 then 0 else 7) else (bif Nat.blt k 37 then 13 else (bif Nat.blt k 38 then 15 else 13)))))) else (bif Nat.blt k 59 then (bif Nat.blt k 49 then (bif Nat.blt k 44 then (bif Nat.blt k 41 then 13 else (bif Nat.blt k 42 then 13 else (bif Nat.blt k 43 then 15 else 7))) else (bif Nat.blt k 46 then (bif Nat.blt k 45 then 13 else 15) else 13)) else (bif Nat.blt k 54 then (bif Nat.blt k 51 then (bif Nat.blt k 50 then 13 else 15) else (bif Nat.blt k 52 then 7 else (bif Nat.blt k 53 then 13 else 15))) else (bif Nat.blt k 56 then 13 else (bif Nat.blt k 57 then 13 else (bif Nat.blt k 58 then 13 else 15))))) else (bif Nat.blt k 69 then (bif Nat.blt k 64 then (bif Nat.blt k 61 then (bif Nat.blt k 60 then 1 else 16) else (bif Nat.blt k 62 then 7 else (bif Nat.blt k 63 then 13 else 15))) else (bif Nat.blt k 66 then 13 else (bif Nat.blt k 67 then 13 else (bif Nat.blt k 68 then 13 else 15)))) else (bif Nat.blt k 74 then (bif Nat.blt k 71 then (bif Nat.blt k 70 then 7 else 13) else (bif Nat.blt k 72 then 15 else 13)) else (bif Nat.blt k 76 then 13 else (bif Nat.blt k 77 then 15 else (bif Nat.blt k 78 then 7 else 13))))))) else (bif Nat.blt k 119 then (bif Nat.blt k 99 then (bif Nat.blt k 89 then (bif Nat.blt k 84 then (bif Nat.blt k 81 then (bif Nat.blt k 80 then 15 else 13) else 13) else (bif Nat.blt k 86 then (bif Nat.blt k 85 then 15 else 7) else (bif Nat.blt k 87 then 13 else (bif Nat.blt k 88 then 15 else 13)))) else (bif Nat.blt k 94 then (bif Nat.blt k 91 then 13 else (bif Nat.blt k 92 then 13 else (bif Nat.blt k 93 then 15 else 7))) else (bif Nat.blt k 96 then (bif Nat.blt k 95 then 13 else 15) else 13))) else (bif Nat.blt k 109 then (bif Nat.blt k 104 then (bif Nat.blt k 101 then (bif Nat.blt k 100 then 13 else 15) else (bif Nat.blt k 102 then 7 else (bif Nat.blt k 103 then 13 else 15))) else (bif Nat.blt k 106 then 13 else (bif Nat.blt k 107 then 13 else (bif Nat.blt k 108 then 13 else 15)))) else (bif Nat.blt k 114 then (bif Nat.blt k 111 then (bif Nat.blt k 110 then 7 else 13) else (bif Nat.blt k 112 then 15 else 13)) else (bif Nat.blt k 116 then 13 else (bif Nat.blt k 117 then 15 else (bif Nat.blt k 118 then 7 else 13)))))) else (bif Nat.blt k 139 then (bif Nat.blt k 129 then (bif Nat.blt k 124 then (bif Nat.blt k 121 then (bif Nat.blt k 120 then 15 else 13) else 13) else (bif Nat.blt k 126 then (bif Nat.blt k 125 then 15 else 7) else (bif Nat.blt k 127 then 13 else (bif Nat.blt k 128 then 15 else 13)))) else (bif Nat.blt k 134 then (bif Nat.blt k 131 then 13 else (bif Nat.blt k 132 then 13 else (bif Nat.blt k 133 then 15 else 7))) else (bif Nat.blt k 136 then (bif Nat.blt k 135 then 13 else 15) else 13))) else (bif Nat.blt k 149 then (bif Nat.blt k 144 then (bif Nat.blt k 141 then (bif Nat.blt k 140 then 13 else 15) else (bif Nat.blt k 142 then 7 else (bif Nat.blt k 143 then 13 else 15))) else (bif Nat.blt k 146 then 13 else (bif Nat.blt k 147 then 13 else (bif Nat.blt k 148 then 13 else 15)))) else (bif Nat.blt k 154 then (bif Nat.blt k 151 then (bif Nat.blt k 150 then 7 else 13) else (bif Nat.blt k 152 then 15 else 13)) else (bif Nat.blt k 156 then 13 else (bif Nat.blt k 157 then 15 else (bif Nat.blt k 158 then 7 else 13)))))))) else (bif Nat.blt k 239 then (bif Nat.blt k 199 then (bif Nat.blt k 179 then (bif Nat.blt k 169 then (bif Nat.blt k 164 then (bif Nat.blt k 161 then (bif Nat.blt k 160 then 15 else 13) else 13) else (bif Nat.blt k 166 then (bif Nat.blt k 165 then 15 else 7) else (bif Nat.blt k 167 then 13 else (bif Nat.blt k 168 then 15 else 13)))) else (bif Nat.blt k 174 then (bif Nat.blt k 171 then 13 else (bif Nat.blt k 172 then 13 else (bif Nat.blt k 173 then 15 else 7))) else (bif Nat.blt k 176 then (bif Nat.blt k 175 then 13 else 15) else 13))) else (bif Nat.blt k 189 then (bif Nat.blt k 184 then (bif Nat.blt k 181 then (bif Nat.blt k 180 then 13 else 15) else (bif Nat.blt k 182 then 7 else (bif Nat.blt k 183 then 13 else 15))) else (bif Nat.blt k 186 then 13 else (bif Nat.blt k 187 then 13 else (bif Nat.blt k 188 then 13 else 15)))) else (bif Nat.blt k 194 then (bif Nat.blt k 191 then (bif Nat.blt k 190 then 7 else 13) else (bif Nat.blt k 192 then 15 else 13)) else (bif Nat.blt k 196 then 13 else (bif Nat.blt k 197 then 15 else (bif Nat.blt k 198 then 7 else 13)))))) else (bif Nat.blt k 219 then (bif Nat.blt k 209 then (bif Nat.blt k 204 then (bif Nat.blt k 201 then (bif Nat.blt k 200 then 15 else 13) else 13) else (bif Nat.blt k 206 then (bif Nat.blt k 205 then 15 else 7) else (bif Nat.blt k 207 then 13 else (bif Nat.blt k 208 then 15 else 13)))) else (bif Nat.blt k 214 then (bif Nat.blt k 211 then 13 else (bif Nat.blt k 212 then 13 else (bif Nat.blt k 213 then 15 else 7))) else (bif Nat.blt k 216 then (bif Nat.blt k 215 then 13 else 15) else 13))) else (bif Nat.blt k 229 then (bif Nat.blt k 224 then (bif Nat.blt k 221 then (bif Nat.blt k 220 then 13 else 15) else (bif Nat.blt k 222 then 2 else (bif Nat.blt k 223 then 17 else 13))) else 13) else (bif Nat.blt k 234 then (bif Nat.blt k 231 then (bif Nat.blt k 230 then 13 else 17) else 13) else 13)))) else (bif Nat.blt k 279 then (bif Nat.blt k 259 then (bif Nat.blt k 249 then (bif Nat.blt k 244 then (bif Nat.blt k 241 then (bif Nat.blt k 240 then 3 else 7) else (bif Nat.blt k 242 then 13 else (bif Nat.blt k 243 then 15 else 13))) else (bif Nat.blt k 246 then 13 else (bif Nat.blt k 247 then 13 else (bif Nat.blt k 248 then 15 else 13)))) else (bif Nat.blt k 254 then (bif Nat.blt k 251 then 13 else (bif Nat.blt k 252 then 9 else (bif Nat.blt k 253 then 7 else 13))) else (bif Nat.blt k 256 then (bif Nat.blt k 255 then 15 else 13) else 13))) else (bif Nat.blt k 269 then (bif Nat.blt k 264 then (bif Nat.blt k 261 then (bif Nat.blt k 260 then 15 else 13) else (bif Nat.blt k 262 then 17 else 13)) else 13) else (bif Nat.blt k 274 then (bif Nat.blt k 271 then 13 else (bif Nat.blt k 272 then 13 else (bif Nat.blt k 273 then 4 else 13))) else (bif Nat.blt k 276 then 13 else (bif Nat.blt k 277 then 12 else 13))))) else (bif Nat.blt k 299 then (bif Nat.blt k 289 then 13 else (bif Nat.blt k 294 then (bif Nat.blt k 291 then (bif Nat.blt k 290 then 13 else 14) else (bif Nat.blt k 292 then 14 else 13)) else (bif Nat.blt k 296 then (bif Nat.blt k 295 then 15 else 13) else 13))) else (bif Nat.blt k 309 then 13 else (bif Nat.blt k 314 then (bif Nat.blt k 311 then (bif Nat.blt k 310 then 14 else 13) else 13) else 13)))))) else 20)
def zL (n k : Nat) : Nat := (bif Nat.beq k 0 then n else bif Nat.blt k 319 then (bif Nat.blt k 159 then (bif Nat.blt k 79 then (bif Nat.blt k 39 then (bif Nat.blt k 19 then (bif Nat.blt k 9 then (bif Nat.blt k 4 then 0 else (bif Nat.blt k 6 then (bif Nat.blt k 5 then 1600 else 0) else 8)) else (bif Nat.blt k 14 then (bif Nat.blt k 11 then 7 else (bif Nat.blt k 12 then 7 else (bif Nat.blt k 13 then 7 else 1600))) else (bif Nat.blt k 16 then 3 else (bif Nat.blt k 17 then 29 else (bif Nat.blt k 18 then 128 else 0))))) else (bif Nat.blt k 29 then (bif Nat.blt k 24 then (bif Nat.blt k 21 then 8 else (bif Nat.blt k 22 then 8 else 7)) else (bif Nat.blt k 26 then 7 else (bif Nat.blt k 27 then 1600 else 3))) else (bif Nat.blt k 34 then (bif Nat.blt k 31 then (bif Nat.blt k 30 then 29 else 128) else (bif Nat.blt k 32 then 0 else (bif Nat.blt k 33 then 0 else 22))) else (bif Nat.blt k 36 then 0 else (bif Nat.blt k 37 then 8 else (bif Nat.blt k 38 then 8 else 7)))))) else (bif Nat.blt k 59 then (bif Nat.blt k 49 then (bif Nat.blt k 44 then (bif Nat.blt k 41 then 7 else (bif Nat.blt k 42 then 7 else (bif Nat.blt k 43 then 7 else 0))) else (bif Nat.blt k 46 then 8 else 7)) else (bif Nat.blt k 54 then (bif Nat.blt k 51 then 7 else (bif Nat.blt k 52 then 0 else 8)) else 7)) else (bif Nat.blt k 69 then (bif Nat.blt k 64 then (bif Nat.blt k 61 then (bif Nat.blt k 60 then 0 else 20) else (bif Nat.blt k 62 then 0 else 8)) else 7) else (bif Nat.blt k 74 then (bif Nat.blt k 71 then (bif Nat.blt k 70 then 0 else 8) else (bif Nat.blt k 72 then 8 else 7)) else (bif Nat.blt k 76 then 7 else (bif Nat.blt k 77 then 7 else (bif Nat.blt k 78 then 0 else 8))))))) else (bif Nat.blt k 119 then (bif Nat.blt k 99 then (bif Nat.blt k 89 then (bif Nat.blt k 84 then (bif Nat.blt k 81 then (bif Nat.blt k 80 then 8 else 7) else 7) else (bif Nat.blt k 86 then (bif Nat.blt k 85 then 7 else 0) else (bif Nat.blt k 87 then 8 else (bif Nat.blt k 88 then 8 else 7)))) else (bif Nat.blt k 94 then (bif Nat.blt k 91 then 7 else (bif Nat.blt k 92 then 7 else (bif Nat.blt k 93 then 7 else 0))) else (bif Nat.blt k 96 then 8 else 7))) else (bif Nat.blt k 109 then (bif Nat.blt k 104 then (bif Nat.blt k 101 then 7 else (bif Nat.blt k 102 then 0 else 8)) else 7) else (bif Nat.blt k 114 then (bif Nat.blt k 111 then (bif Nat.blt k 110 then 0 else 8) else (bif Nat.blt k 112 then 8 else 7)) else (bif Nat.blt k 116 then 7 else (bif Nat.blt k 117 then 7 else (bif Nat.blt k 118 then 0 else 8)))))) else (bif Nat.blt k 139 then (bif Nat.blt k 129 then (bif Nat.blt k 124 then (bif Nat.blt k 121 then (bif Nat.blt k 120 then 8 else 7) else 7) else (bif Nat.blt k 126 then (bif Nat.blt k 125 then 7 else 0) else (bif Nat.blt k 127 then 8 else (bif Nat.blt k 128 then 8 else 7)))) else (bif Nat.blt k 134 then (bif Nat.blt k 131 then 7 else (bif Nat.blt k 132 then 7 else (bif Nat.blt k 133 then 7 else 0))) else (bif Nat.blt k 136 then 8 else 7))) else (bif Nat.blt k 149 then (bif Nat.blt k 144 then (bif Nat.blt k 141 then 7 else (bif Nat.blt k 142 then 0 else 8)) else 7) else (bif Nat.blt k 154 then (bif Nat.blt k 151 then (bif Nat.blt k 150 then 0 else 8) else (bif Nat.blt k 152 then 8 else 7)) else (bif Nat.blt k 156 then 7 else (bif Nat.blt k 157 then 7 else (bif Nat.blt k 158 then 0 else 8)))))))) else (bif Nat.blt k 239 then (bif Nat.blt k 199 then (bif Nat.blt k 179 then (bif Nat.blt k 169 then (bif Nat.blt k 164 then (bif Nat.blt k 161 then (bif Nat.blt k 160 then 8 else 7) else 7) else (bif Nat.blt k 166 then (bif Nat.blt k 165 then 7 else 0) else (bif Nat.blt k 167 then 8 else (bif Nat.blt k 168 then 8 else 7)))) else (bif Nat.blt k 174 then (bif Nat.blt k 171 then 7 else (bif Nat.blt k 172 then 7 else (bif Nat.blt k 173 then 7 else 0))) else (bif Nat.blt k 176 then 8 else 7))) else (bif Nat.blt k 189 then (bif Nat.blt k 184 then (bif Nat.blt k 181 then 7 else (bif Nat.blt k 182 then 0 else 8)) else 7) else (bif Nat.blt k 194 then (bif Nat.blt k 191 then (bif Nat.blt k 190 then 0 else 8) else (bif Nat.blt k 192 then 8 else 7)) else (bif Nat.blt k 196 then 7 else (bif Nat.blt k 197 then 7 else (bif Nat.blt k 198 then 0 else 8)))))) else (bif Nat.blt k 219 then (bif Nat.blt k 209 then (bif Nat.blt k 204 then (bif Nat.blt k 201 then (bif Nat.blt k 200 then 8 else 7) else 7) else (bif Nat.blt k 206 then (bif Nat.blt k 205 then 7 else 0) else (bif Nat.blt k 207 then 8 else (bif Nat.blt k 208 then 8 else 7)))) else (bif Nat.blt k 214 then (bif Nat.blt k 211 then 7 else (bif Nat.blt k 212 then 7 else (bif Nat.blt k 213 then 7 else 0))) else (bif Nat.blt k 216 then 8 else 7))) else (bif Nat.blt k 229 then (bif Nat.blt k 224 then (bif Nat.blt k 221 then 7 else (bif Nat.blt k 222 then 0 else (bif Nat.blt k 223 then 7 else 8))) else 8) else (bif Nat.blt k 234 then (bif Nat.blt k 231 then 8 else 256) else 256)))) else (bif Nat.blt k 279 then (bif Nat.blt k 259 then (bif Nat.blt k 249 then (bif Nat.blt k 244 then (bif Nat.blt k 241 then 0 else (bif Nat.blt k 242 then 8 else (bif Nat.blt k 243 then 8 else 7))) else (bif Nat.blt k 246 then 7 else (bif Nat.blt k 247 then 7 else (bif Nat.blt k 248 then 7 else 8)))) else (bif Nat.blt k 254 then (bif Nat.blt k 251 then (bif Nat.blt k 250 then 224 else 3) else (bif Nat.blt k 252 then 0 else (bif Nat.blt k 253 then 0 else 8))) else (bif Nat.blt k 256 then (bif Nat.blt k 255 then 8 else 7) else 7))) else (bif Nat.blt k 269 then (bif Nat.blt k 264 then (bif Nat.blt k 261 then (bif Nat.blt k 260 then 7 else 48) else (bif Nat.blt k 262 then 9 else 31)) else 31) else (bif Nat.blt k 274 then (bif Nat.blt k 271 then 31 else (bif Nat.blt k 272 then 9 else (bif Nat.blt k 273 then 0 else 61))) else (bif Nat.blt k 276 then (bif Nat.blt k 275 then 999 else 6) else (bif Nat.blt k 277 then 0 else (bif Nat.blt k 278 then 1800 else 2)))))) else (bif Nat.blt k 299 then (bif Nat.blt k 289 then (bif Nat.blt k 284 then (bif Nat.blt k 281 then 16 else (bif Nat.blt k 282 then 2 else 14)) else (bif Nat.blt k 286 then (bif Nat.blt k 285 then 14 else 2) else (bif Nat.blt k 287 then 6 else (bif Nat.blt k 288 then 6 else 3200)))) else (bif Nat.blt k 294 then (bif Nat.blt k 291 then (bif Nat.blt k 290 then 3200 else 16) else (bif Nat.blt k 292 then 14 else 20)) else (bif Nat.blt k 296 then 20 else (bif Nat.blt k 297 then 20 else (bif Nat.blt k 298 then 500 else 6))))) else (bif Nat.blt k 309 then (bif Nat.blt k 304 then (bif Nat.blt k 301 then 22 else (bif Nat.blt k 302 then 176 else 154)) else (bif Nat.blt k 306 then 154 else (bif Nat.blt k 307 then 22 else (bif Nat.blt k 308 then 22 else 2640)))) else (bif Nat.blt k 314 then (bif Nat.blt k 311 then (bif Nat.blt k 310 then 500 else 12) else (bif Nat.blt k 312 then 2048 else (bif Nat.blt k 313 then 21 else 3))) else (bif Nat.blt k 316 then 16 else (bif Nat.blt k 317 then 16 else (bif Nat.blt k 318 then 1953 else 70))))))))) else 0)
def zR (k : Nat) : Nat → Option Nat := (bif Nat.blt k 319 then (bif Nat.blt k 159 then (bif Nat.blt k 79 then (bif Nat.blt k 39 then (bif Nat.blt k 19 then (bif Nat.blt k 9 then (bif Nat.blt k 4 then (bif Nat.blt k 2 then (fun _ => none) else (bif Nat.blt k 3 then (fun j => (bif (Nat.ble 0 j && Nat.ble j 0) then some 3 else (bif (Nat.ble 1 j && Nat.ble j 1) then some 5 else (bif (Nat.ble 2 j && Nat.ble j 2) then some 18 else (bif (Nat.ble 3 j && Nat.ble j 3) then some 31 else (bif (Nat.ble 4 j && Nat.ble j 4) then some 34 else (bif (Nat.ble 5 j && Nat.ble j 5) then some 35 else (bif (Nat.ble 6 j && Nat.ble j 6) then some 43 else (bif (Nat.ble 7 j && Nat.ble j 7) then some 51 else (bif (Nat.ble 8 j && Nat.ble j 8) then some 59 else (bif (Nat.ble 9 j && Nat.ble j 9) then some 221 else (bif (Nat.ble 10 j && Nat.ble j 10) then some 239 else (bif (Nat.ble 11 j && Nat.ble j 11) then some 251 else (bif (Nat.ble 12 j && Nat.ble j 12) then some 272 else (bif (Nat.ble 13 j && Nat.ble j 13) then some 274 else (bif (Nat.ble 14 j && Nat.ble j 14) then some 275 else none)))))))))))))))) else (fun j => (bif (Nat.ble 0 j && Nat.ble j 0) then some 4 else none)))) else (bif Nat.blt k 6 then (bif Nat.blt k 5 then (fun _ => none) else (fun j => (bif (Nat.ble 0 j && Nat.ble j 11) then some (6 + j) else none))) else (fun _ => none))) else (bif Nat.blt k 14 then (fun _ => none) else (bif Nat.blt k 16 then (fun _ => none) else (bif Nat.blt k 17 then (fun _ => none) else (bif Nat.blt k 18 then (fun _ => none) else (fun j => (bif (Nat.ble 0 j && Nat.ble j 11) then some (19 + j) else none))))))) else (bif Nat.blt k 29 then (fun _ => none) else (bif Nat.blt k 34 then (bif Nat.blt k 31 then (fun _ => none) else (bif Nat.blt k 32 then (fun j => (bif (Nat.ble 0 j && Nat.ble j 0) then some 32 else (bif (Nat.ble 1 j && Nat.ble j 1) then some 18 else none))) else (bif Nat.blt k 33 then (fun j => (bif (Nat.ble 0 j && Nat.ble j 0) then some 3 else (bif (Nat.ble 1 j && Nat.ble j 1) then some 33 else none))) else (fun _ => none)))) else (bif Nat.blt k 36 then (bif Nat.blt k 35 then (fun j => (bif (Nat.ble 0 j && Nat.ble j 0) then some 5 else none)) else (fun j => (bif (Nat.ble 0 j && Nat.ble j 6) then some (36 + j) else none))) else (fun _ => none))))) else (bif Nat.blt k 59 then (bif Nat.blt k 49 then (bif Nat.blt k 44 then (bif Nat.blt k 41 then (fun _ => none) else (bif Nat.blt k 42 then (fun _ => none) else (bif Nat.blt k 43 then (fun _ => none) else (fun j => (bif (Nat.ble 0 j && Nat.ble j 6) then some (44 + j) else none))))) else (fun _ => none)) else (bif Nat.blt k 54 then (bif Nat.blt k 51 then (fun _ => none) else (bif Nat.blt k 52 then (fun j => (bif (Nat.ble 0 j && Nat.ble j 6) then some (52 + j) else none)) else (fun _ => none))) else (fun _ => none))) else (bif Nat.blt k 69 then (bif Nat.blt k 64 then (bif Nat.blt k 61 then (bif Nat.blt k 60 then (fun j => (bif (Nat.ble 0 j && Nat.ble j 0) then some 60 else none)) else (fun j => (bif (Nat.ble 0 j && Nat.ble j 19) then some (61 + 8 * j) else none))) else (bif Nat.blt k 62 then (fun j => (bif (Nat.ble 0 j && Nat.ble j 6) then some (62 + j) else none)) else (fun _ => none))) else (fun _ => none)) else (bif Nat.blt k 74 then (bif Nat.blt k 71 then (bif Nat.blt k 70 then (fun j => (bif (Nat.ble 0 j && Nat.ble j 6) then some (70 + j) else none)) else (fun _ => none)) else (fun _ => none)) else (bif Nat.blt k 76 then (fun _ => none) else (bif Nat.blt k 77 then (fun _ => none) else (bif Nat.blt k 78 then (fun j => (bif (Nat.ble 0 j && Nat.ble j 6) then some (78 + j) else none)) else (fun _ => none)))))))) else (bif Nat.blt k 119 then (bif Nat.blt k 99 then (bif Nat.blt k 89 then (bif Nat.blt k 84 then (fun _ => none) else (bif Nat.blt k 86 then (bif Nat.blt k 85 then (fun _ => none) else (fun j => (bif (Nat.ble 0 j && Nat.ble j 6) then some (86 + j) else none))) else (fun _ => none))) else (bif Nat.blt k 94 then (bif Nat.blt k 91 then (fun _ => none) else (bif Nat.blt k 92 then (fun _ => none) else (bif Nat.blt k 93 then (fun _ => none) else (fun j => (bif (Nat.ble 0 j && Nat.ble j 6) then some (94 + j) else none))))) else (fun _ => none))) else (bif Nat.blt k 109 then (bif Nat.blt k 104 then (bif Nat.blt k 101 then (fun _ => none) else (bif Nat.blt k 102 then (fun j => (bif (Nat.ble 0 j && Nat.ble j 6) then some (102 + j) else none)) else (fun _ => none))) else (fun _ => none)) else (bif Nat.blt k 114 then (bif Nat.blt k 111 then (bif Nat.blt k 110 then (fun j => (bif (Nat.ble 0 j && Nat.ble j 6) then some (110 + j) else none)) else (fun _ => none)) else (fun _ => none)) else (bif Nat.blt k 116 then (fun _ => none) else (bif Nat.blt k 117 then (fun _ => none) else (bif Nat.blt k 118 then (fun j => (bif (Nat.ble 0 j && Nat.ble j 6) then some (118 + j) else none)) else (fun _ => none))))))) else (bif Nat.blt k 139 then (bif Nat.blt k 129 then (bif Nat.blt k 124 then (fun _ => none) else (bif Nat.blt k 126 then (bif Nat.blt k 125 then (fun _ => none) else (fun j => (bif (Nat.ble 0 j && Nat.ble j 6) then some (126 + j) else none))) else (fun _ => none))) else (bif Nat.blt k 134 then (bif Nat.blt k 131 then (fun _ => none) else (bif Nat.blt k 132 then (fun _ => none) else (bif Nat.blt k 133 then (fun _ => none) else (fun j => (bif (Nat.ble 0 j && Nat.ble j 6) then some (134 + j) else none))))) else (fun _ => none))) else (bif Nat.blt k 149 then (bif Nat.blt k 144 then (bif Nat.blt k 141 then (fun _ => none) else (bif Nat.blt k 142 then (fun j => (bif (Nat.ble 0 j && Nat.ble j 6) then some (142 + j) else none)) else (fun _ => none))) else (fun _ => none)) else (bif Nat.blt k 154 then (bif Nat.blt k 151 then (bif Nat.blt k 150 then (fun j => (bif (Nat.ble 0 j && Nat.ble j 6) then some (150 + j) else none)) else (fun _ => none)) else (fun _ => none)) else (bif Nat.blt k 156 then (fun _ => none) else (bif Nat.blt k 157 then (fun _ => none) else (bif Nat.blt k 158 then (fun j => (bif (Nat.ble 0 j && Nat.ble j 6) then some (158 + j) else none)) else (fun _ => none))))))))) else (bif Nat.blt k 239 then (bif Nat.blt k 199 then (bif Nat.blt k 179 then (bif Nat.blt k 169 then (bif Nat.blt k 164 then (fun _ => none) else (bif Nat.blt k 166 then (bif Nat.blt k 165 then (fun _ => none) else (fun j => (bif (Nat.ble 0 j && Nat.ble j 6) then some (166 + j) else none))) else (fun _ => none))) else (bif Nat.blt k 174 then (bif Nat.blt k 171 then (fun _ => none) else (bif Nat.blt k 172 then (fun _ => none) else (bif Nat.blt k 173 then (fun _ => none) else (fun j => (bif (Nat.ble 0 j && Nat.ble j 6) then some (174 + j) else none))))) else (fun _ => none))) else (bif Nat.blt k 189 then (bif Nat.blt k 184 then (bif Nat.blt k 181 then (fun _ => none) else (bif Nat.blt k 182 then (fun j => (bif (Nat.ble 0 j && Nat.ble j 6) then some (182 + j) else none)) else (fun _ => none))) else (fun _ => none)) else (bif Nat.blt k 194 then (bif Nat.blt k 191 then (bif Nat.blt k 190 then (fun j => (bif (Nat.ble 0 j && Nat.ble j 6) then some (190 + j) else none)) else (fun _ => none)) else (fun _ => none)) else (bif Nat.blt k 196 then (fun _ => none) else (bif Nat.blt k 197 then (fun _ => none) else (bif Nat.blt k 198 then (fun j => (bif (Nat.ble 0 j && Nat.ble j 6) then some (198 + j) else none)) else (fun _ => none))))))) else (bif Nat.blt k 219 then (bif Nat.blt k 209 then (bif Nat.blt k 204 then (fun _ => none) else (bif Nat.blt k 206 then (bif Nat.blt k 205 then (fun _ => none) else (fun j => (bif (Nat.ble 0 j && Nat.ble j 6) then some (206 + j) else none))) else (fun _ => none))) else (bif Nat.blt k 214 then (bif Nat.blt k 211 then (fun _ => none) else (bif Nat.blt k 212 then (fun _ => none) else (bif Nat.blt k 213 then (fun _ => none) else (fun j => (bif (Nat.ble 0 j && Nat.ble j 6) then some (214 + j) else none))))) else (fun _ => none))) else (bif Nat.blt k 229 then (bif Nat.blt k 224 then (bif Nat.blt k 221 then (fun _ => none) else (bif Nat.blt k 222 then (fun j => (bif (Nat.ble 0 j && Nat.ble j 0) then some 5 else (bif (Nat.ble 1 j && Nat.ble j 1) then some 222 else (bif (Nat.ble 2 j && Nat.ble j 2) then some 230 else none)))) else (bif Nat.blt k 223 then (fun j => (bif (Nat.ble 0 j && Nat.ble j 6) then some (223 + j) else none)) else (fun _ => none)))) else (fun _ => none)) else (bif Nat.blt k 234 then (bif Nat.blt k 231 then (bif Nat.blt k 230 then (fun _ => none) else (fun j => (bif (Nat.ble 0 j && Nat.ble j 7) then some (231 + j) else none))) else (fun _ => none)) else (fun _ => none))))) else (bif Nat.blt k 279 then (bif Nat.blt k 259 then (bif Nat.blt k 249 then (bif Nat.blt k 244 then (bif Nat.blt k 241 then (bif Nat.blt k 240 then (fun j => (bif (Nat.ble 0 j && Nat.ble j 0) then some 5 else (bif (Nat.ble 1 j && Nat.ble j 1) then some 240 else (bif (Nat.ble 2 j && Nat.ble j 4) then some (246 + j) else none)))) else (fun j => (bif (Nat.ble 0 j && Nat.ble j 6) then some (241 + j) else none))) else (fun _ => none)) else (fun _ => none)) else (bif Nat.blt k 254 then (bif Nat.blt k 251 then (fun _ => none) else (bif Nat.blt k 252 then (fun j => (bif (Nat.ble 0 j && Nat.ble j 0) then some 5 else (bif (Nat.ble 1 j && Nat.ble j 1) then some 34 else (bif (Nat.ble 2 j && Nat.ble j 2) then some 252 else (bif (Nat.ble 3 j && Nat.ble j 3) then some 260 else (bif (Nat.ble 5 j && Nat.ble j 5) then some 261 else (bif (Nat.ble 6 j && Nat.ble j 6) then some 271 else none))))))) else (bif Nat.blt k 253 then (fun j => (bif (Nat.ble 0 j && Nat.ble j 6) then some (253 + j) else none)) else (fun _ => none)))) else (fun _ => none))) else (bif Nat.blt k 269 then (bif Nat.blt k 264 then (bif Nat.blt k 261 then (fun _ => none) else (bif Nat.blt k 262 then (fun j => (bif (Nat.ble 0 j && Nat.ble j 8) then some (262 + j) else none)) else (fun _ => none))) else (fun _ => none)) else (bif Nat.blt k 274 then (bif Nat.blt k 271 then (fun _ => none) else (bif Nat.blt k 272 then (fun _ => none) else (bif Nat.blt k 273 then (fun j => (bif (Nat.ble 0 j && Nat.ble j 0) then some 5 else (bif (Nat.ble 1 j && Nat.ble j 1) then some 273 else none))) else (fun _ => none)))) else (bif Nat.blt k 276 then (fun _ => none) else (bif Nat.blt k 277 then (fun j => (bif (Nat.ble 0 j && Nat.ble j 0) then some 277 else (bif (Nat.ble 14 j && Nat.ble j 27) then some (264 + j) else (bif (Nat.ble 31 j && Nat.ble j 35) then some (261 + j) else (bif (Nat.ble 38 j && Nat.ble j 38) then some 297 else (bif (Nat.ble 41 j && Nat.ble j 51) then some (257 + j) else (bif (Nat.ble 55 j && Nat.ble j 59) then some (254 + j) else (bif (Nat.ble 61 j && Nat.ble j 65) then some (253 + j) else none)))))))) else (fun _ => none)))))) else (fun _ => none)))) else (fun _ => none))
abbrev zc (n : Nat) : pj_Z := (319, zK, zL n, zR)
/-- cells and slots that a constructor makes -/
def ta (k : Nat) : Nat × Nat := bif Nat.beq k 81 then (1, 1600) else bif Nat.beq k 98 then (12, 1815) else bif Nat.beq k 63 then (1, 22) else bif Nat.beq k 35 then (2, 30) else bif Nat.beq k 70 then (7, 51) else bif Nat.beq k 8 then (161, 1220) else bif Nat.beq k 12 then (17, 2119) else bif Nat.beq k 19 then (11, 295) else bif Nat.beq k 87 then (20, 405) else bif Nat.beq k 28 then (1, 61) else bif Nat.beq k 110 then (273, 10616) else bif Nat.beq k 158 then (42, 17103) else (0, 0)
/-- the methods by their numbers -/
noncomputable def tm (k : Nat) : Option pj_T := bif Nat.blt k 266 then (bif Nat.blt k 133 then (bif Nat.blt k 66 then (bif Nat.blt k 33 then (bif Nat.blt k 16 then (bif Nat.blt k 8 then (bif Nat.blt k 4 then (bif Nat.blt k 2 then (bif Nat.blt k 1 then some mt_0 else some mt_1) else (bif Nat.blt k 3 then some mt_2 else some mt_3)) else (bif Nat.blt k 6 then (bif Nat.blt k 5 then some mt_4 else some mt_5) else (bif Nat.blt k 7 then some mt_6 else some mt_7))) else (bif Nat.blt k 12 then (bif Nat.blt k 10 then (bif Nat.blt k 9 then some mt_8 else some mt_9) else (bif Nat.blt k 11 then some mt_10 else some mt_11)) else (bif Nat.blt k 14 then (bif Nat.blt k 13 then some mt_12 else some mt_13) else (bif Nat.blt k 15 then some mt_14 else some mt_15)))) else (bif Nat.blt k 24 then (bif Nat.blt k 20 then (bif Nat.blt k 18 then (bif Nat.blt k 17 then some mt_16 else some mt_17) else (bif Nat.blt k 19 then some mt_18 else some mt_19)) else (bif Nat.blt k 22 then (bif Nat.blt k 21 then some mt_20 else some mt_21) else (bif Nat.blt k 23 then some mt_22 else some mt_23))) else (bif Nat.blt k 28 then (bif Nat.blt k 26 then (bif Nat.blt k 25 then some mt_24 else some mt_25) else (bif Nat.blt k 27 then some mt_26 else some mt_27)) else (bif Nat.blt k 30 then (bif Nat.blt k 29 then some mt_28 else some mt_29) else (bif Nat.blt k 31 then some mt_30 else (bif Nat.blt k 32 then some mt_31 else some mt_32)))))) else (bif Nat.blt k 49 then (bif Nat.blt k 41 then (bif Nat.blt k 37 then (bif Nat.blt k 35 then (bif Nat.blt k 34 then some mt_33 else some mt_34) else (bif Nat.blt k 36 then some mt_35 else some mt_36)) else (bif Nat.blt k 39 then (bif Nat.blt k 38 then some mt_37 else some mt_38) else (bif Nat.blt k 40 then some mt_39 else some mt_40))) else (bif Nat.blt k 45 then (bif Nat.blt k 43 then (bif Nat.blt k 42 then some mt_41 else some mt_42) else (bif Nat.blt k 44 then some mt_43 else some mt_44)) else (bif Nat.blt k 47 then (bif Nat.blt k 46 then some mt_45 else some mt_46) else (bif Nat.blt k 48 then some mt_47 else some mt_48)))) else (bif Nat.blt k 57 then (bif Nat.blt k 53 then (bif Nat.blt k 51 then (bif Nat.blt k 50 then some mt_49 else some mt_50) else (bif Nat.blt k 52 then some mt_51 else some mt_52)) else (bif Nat.blt k 55 then (bif Nat.blt k 54 then some mt_53 else some mt_54) else (bif Nat.blt k 56 then some mt_55 else some mt_56))) else (bif Nat.blt k 61 then (bif Nat.blt k 59 then (bif Nat.blt k 58 then some mt_57 else some mt_58) else (bif Nat.blt k 60 then some mt_59 else some mt_60)) else (bif Nat.blt k 63 then (bif Nat.blt k 62 then some mt_61 else some mt_62) else (bif Nat.blt k 64 then some mt_63 else (bif Nat.blt k 65 then some mt_64 else some mt_65))))))) else (bif Nat.blt k 99 then (bif Nat.blt k 82 then (bif Nat.blt k 74 then (bif Nat.blt k 70 then (bif Nat.blt k 68 then (bif Nat.blt k 67 then some mt_66 else some mt_67) else (bif Nat.blt k 69 then some mt_68 else some mt_69)) else (bif Nat.blt k 72 then (bif Nat.blt k 71 then some mt_70 else some mt_71) else (bif Nat.blt k 73 then some mt_72 else some mt_73))) else (bif Nat.blt k 78 then (bif Nat.blt k 76 then (bif Nat.blt k 75 then some mt_74 else some mt_75) else (bif Nat.blt k 77 then some mt_76 else some mt_77)) else (bif Nat.blt k 80 then (bif Nat.blt k 79 then some mt_78 else some mt_79) else (bif Nat.blt k 81 then some mt_80 else some mt_81)))) else (bif Nat.blt k 90 then (bif Nat.blt k 86 then (bif Nat.blt k 84 then (bif Nat.blt k 83 then some mt_82 else some mt_83) else (bif Nat.blt k 85 then some mt_84 else some mt_85)) else (bif Nat.blt k 88 then (bif Nat.blt k 87 then some mt_86 else some mt_87) else (bif Nat.blt k 89 then some mt_88 else some mt_89))) else (bif Nat.blt k 94 then (bif Nat.blt k 92 then (bif Nat.blt k 91 then some mt_90 else some mt_91) else (bif Nat.blt k 93 then some mt_92 else some mt_93)) else (bif Nat.blt k 96 then (bif Nat.blt k 95 then some mt_94 else some mt_95) else (bif Nat.blt k 97 then some mt_96 else (bif Nat.blt k 98 then some mt_97 else some mt_98)))))) else (bif Nat.blt k 116 then (bif Nat.blt k 107 then (bif Nat.blt k 103 then (bif Nat.blt k 101 then (bif Nat.blt k 100 then some mt_99 else some mt_100) else (bif Nat.blt k 102 then some mt_101 else some mt_102)) else (bif Nat.blt k 105 then (bif Nat.blt k 104 then some mt_103 else some mt_104) else (bif Nat.blt k 106 then some mt_105 else some mt_106))) else (bif Nat.blt k 111 then (bif Nat.blt k 109 then (bif Nat.blt k 108 then some mt_107 else some mt_108) else (bif Nat.blt k 110 then some mt_109 else some mt_110)) else (bif Nat.blt k 113 then (bif Nat.blt k 112 then some mt_111 else some mt_112) else (bif Nat.blt k 114 then some mt_113 else (bif Nat.blt k 115 then some mt_114 else some mt_115))))) else (bif Nat.blt k 124 then (bif Nat.blt k 120 then (bif Nat.blt k 118 then (bif Nat.blt k 117 then some mt_116 else some mt_117) else (bif Nat.blt k 119 then some mt_118 else some mt_119)) else (bif Nat.blt k 122 then (bif Nat.blt k 121 then some mt_120 else some mt_121) else (bif Nat.blt k 123 then some mt_122 else some mt_123))) else (bif Nat.blt k 128 then (bif Nat.blt k 126 then (bif Nat.blt k 125 then some mt_124 else some mt_125) else (bif Nat.blt k 127 then some mt_126 else some mt_127)) else (bif Nat.blt k 130 then (bif Nat.blt k 129 then some mt_128 else some mt_129) else (bif Nat.blt k 131 then some mt_130 else (bif Nat.blt k 132 then some mt_131 else some mt_132)))))))) else (bif Nat.blt k 199 then (bif Nat.blt k 166 then (bif Nat.blt k 149 then (bif Nat.blt k 141 then (bif Nat.blt k 137 then (bif Nat.blt k 135 then (bif Nat.blt k 134 then some mt_133 else some mt_134) else (bif Nat.blt k 136 then some mt_135 else some mt_136)) else (bif Nat.blt k 139 then (bif Nat.blt k 138 then some mt_137 else some mt_138) else (bif Nat.blt k 140 then some mt_139 else some mt_140))) else (bif Nat.blt k 145 then (bif Nat.blt k 143 then (bif Nat.blt k 142 then some mt_141 else some mt_142) else (bif Nat.blt k 144 then some mt_143 else some mt_144)) else (bif Nat.blt k 147 then (bif Nat.blt k 146 then some mt_145 else some mt_146) else (bif Nat.blt k 148 then some mt_147 else some mt_148)))) else (bif Nat.blt k 157 then (bif Nat.blt k 153 then (bif Nat.blt k 151 then (bif Nat.blt k 150 then some mt_149 else some mt_150) else (bif Nat.blt k 152 then some mt_151 else some mt_152)) else (bif Nat.blt k 155 then (bif Nat.blt k 154 then some mt_153 else some mt_154) else (bif Nat.blt k 156 then some mt_155 else some mt_156))) else (bif Nat.blt k 161 then (bif Nat.blt k 159 then (bif Nat.blt k 158 then some mt_157 else some mt_158) else (bif Nat.blt k 160 then some mt_159 else some mt_160)) else (bif Nat.blt k 163 then (bif Nat.blt k 162 then some mt_161 else some mt_162) else (bif Nat.blt k 164 then some mt_163 else (bif Nat.blt k 165 then some mt_164 else some mt_165)))))) else (bif Nat.blt k 182 then (bif Nat.blt k 174 then (bif Nat.blt k 170 then (bif Nat.blt k 168 then (bif Nat.blt k 167 then some mt_166 else some mt_167) else (bif Nat.blt k 169 then some mt_168 else some mt_169)) else (bif Nat.blt k 172 then (bif Nat.blt k 171 then some mt_170 else some mt_171) else (bif Nat.blt k 173 then some mt_172 else some mt_173))) else (bif Nat.blt k 178 then (bif Nat.blt k 176 then (bif Nat.blt k 175 then some mt_174 else some mt_175) else (bif Nat.blt k 177 then some mt_176 else some mt_177)) else (bif Nat.blt k 180 then (bif Nat.blt k 179 then some mt_178 else some mt_179) else (bif Nat.blt k 181 then some mt_180 else some mt_181)))) else (bif Nat.blt k 190 then (bif Nat.blt k 186 then (bif Nat.blt k 184 then (bif Nat.blt k 183 then some mt_182 else some mt_183) else (bif Nat.blt k 185 then some mt_184 else some mt_185)) else (bif Nat.blt k 188 then (bif Nat.blt k 187 then some mt_186 else some mt_187) else (bif Nat.blt k 189 then some mt_188 else some mt_189))) else (bif Nat.blt k 194 then (bif Nat.blt k 192 then (bif Nat.blt k 191 then some mt_190 else some mt_191) else (bif Nat.blt k 193 then some mt_192 else some mt_193)) else (bif Nat.blt k 196 then (bif Nat.blt k 195 then some mt_194 else some mt_195) else (bif Nat.blt k 197 then some mt_196 else (bif Nat.blt k 198 then some mt_197 else some mt_198))))))) else (bif Nat.blt k 232 then (bif Nat.blt k 215 then (bif Nat.blt k 207 then (bif Nat.blt k 203 then (bif Nat.blt k 201 then (bif Nat.blt k 200 then some mt_199 else some mt_200) else (bif Nat.blt k 202 then some mt_201 else some mt_202)) else (bif Nat.blt k 205 then (bif Nat.blt k 204 then some mt_203 else some mt_204) else (bif Nat.blt k 206 then some mt_205 else some mt_206))) else (bif Nat.blt k 211 then (bif Nat.blt k 209 then (bif Nat.blt k 208 then some mt_207 else some mt_208) else (bif Nat.blt k 210 then some mt_209 else some mt_210)) else (bif Nat.blt k 213 then (bif Nat.blt k 212 then some mt_211 else some mt_212) else (bif Nat.blt k 214 then some mt_213 else some mt_214)))) else (bif Nat.blt k 223 then (bif Nat.blt k 219 then (bif Nat.blt k 217 then (bif Nat.blt k 216 then some mt_215 else some mt_216) else (bif Nat.blt k 218 then some mt_217 else some mt_218)) else (bif Nat.blt k 221 then (bif Nat.blt k 220 then some mt_219 else some mt_220) else (bif Nat.blt k 222 then some mt_221 else some mt_222))) else (bif Nat.blt k 227 then (bif Nat.blt k 225 then (bif Nat.blt k 224 then some mt_223 else some mt_224) else (bif Nat.blt k 226 then some mt_225 else some mt_226)) else (bif Nat.blt k 229 then (bif Nat.blt k 228 then some mt_227 else some mt_228) else (bif Nat.blt k 230 then some mt_229 else (bif Nat.blt k 231 then some mt_230 else some mt_231)))))) else (bif Nat.blt k 249 then (bif Nat.blt k 240 then (bif Nat.blt k 236 then (bif Nat.blt k 234 then (bif Nat.blt k 233 then some mt_232 else some mt_233) else (bif Nat.blt k 235 then some mt_234 else some mt_235)) else (bif Nat.blt k 238 then (bif Nat.blt k 237 then some mt_236 else some mt_237) else (bif Nat.blt k 239 then some mt_238 else some mt_239))) else (bif Nat.blt k 244 then (bif Nat.blt k 242 then (bif Nat.blt k 241 then some mt_240 else some mt_241) else (bif Nat.blt k 243 then some mt_242 else some mt_243)) else (bif Nat.blt k 246 then (bif Nat.blt k 245 then some mt_244 else some mt_245) else (bif Nat.blt k 247 then some mt_246 else (bif Nat.blt k 248 then some mt_247 else some mt_248))))) else (bif Nat.blt k 257 then (bif Nat.blt k 253 then (bif Nat.blt k 251 then (bif Nat.blt k 250 then some mt_249 else some mt_250) else (bif Nat.blt k 252 then some mt_251 else some mt_252)) else (bif Nat.blt k 255 then (bif Nat.blt k 254 then some mt_253 else some mt_254) else (bif Nat.blt k 256 then some mt_255 else some mt_256))) else (bif Nat.blt k 261 then (bif Nat.blt k 259 then (bif Nat.blt k 258 then some mt_257 else some mt_258) else (bif Nat.blt k 260 then some mt_259 else some mt_260)) else (bif Nat.blt k 263 then (bif Nat.blt k 262 then some mt_261 else some mt_262) else (bif Nat.blt k 264 then some mt_263 else (bif Nat.blt k 265 then some mt_264 else some mt_265))))))))) else none
end
section
/-! what the conditions of methods are written with -/
theorem pj_cT {b : Bool} {K : Prop} (hb : b = true) (h : K) : pj_c b K := by subst hb; exact h
theorem pj_in (k n : Nat) (h : (Nat.blt k n && Nat.blt n 1000000) = true) : vp_in (OfNat.ofNat k : Int32) n := by
  rw [Bool.and_eq_true, Nat.blt_eq, Nat.blt_eq] at h
  exact vp_in_nI (n := k) h.1 (by omega)
def kI (n : Nat) (K : Int32 → (Nat → Nat → Int32) → (Nat → Nat → Int64) → Prop) : pj_K := fun r s => ∃ v I J, r = some (.int v) ∧ s = (zc n, I, J) ∧ K v I J
def kL (n : Nat) (K : Int64 → (Nat → Nat → Int32) → (Nat → Nat → Int64) → Prop) : pj_K := fun r s => ∃ v I J, r = some (.long v) ∧ s = (zc n, I, J) ∧ K v I J
def kV (n : Nat) (K : (Nat → Nat → Int32) → (Nat → Nat → Int64) → Prop) : pj_K := fun r s => ∃ I J, r = none ∧ s = (zc n, I, J) ∧ K I J
theorem pj_kI {C : pj_CT} (hC : pj_le C C) {n m : Nat} {args : List Value} {σ : pj_S} {K' : Int32 → (Nat → Nat → Int32) → (Nat → Nat → Int64) → Prop} {K : pj_K} (h : C m args σ (kI n K')) (f : ∀ v I J, K' v I J → K (some (.int v)) (zc n, I, J)) : C m args σ K :=
  hC m args σ _ _ (fun r s q => by obtain ⟨v, I, J, rfl, rfl, q⟩ := q; exact f v I J q) h
theorem pj_kL {C : pj_CT} (hC : pj_le C C) {n m : Nat} {args : List Value} {σ : pj_S} {K' : Int64 → (Nat → Nat → Int32) → (Nat → Nat → Int64) → Prop} {K : pj_K} (h : C m args σ (kL n K')) (f : ∀ v I J, K' v I J → K (some (.long v)) (zc n, I, J)) : C m args σ K :=
  hC m args σ _ _ (fun r s q => by obtain ⟨v, I, J, rfl, rfl, q⟩ := q; exact f v I J q) h
theorem pj_kV {C : pj_CT} (hC : pj_le C C) {n m : Nat} {args : List Value} {σ : pj_S} {K' : (Nat → Nat → Int32) → (Nat → Nat → Int64) → Prop} {K : pj_K} (h : C m args σ (kV n K')) (f : ∀ I J, K' I J → K none (zc n, I, J)) : C m args σ K :=
  hC m args σ _ _ (fun r s q => by obtain ⟨I, J, rfl, rfl, q⟩ := q; exact f I J q) h
end
section
/-! classes and their fields; where the words of field entries, calls, classes and constants stand in tables_1 -/
def cn (k : Nat) : String := ["PegCoats$Course", "PegCoats$History", "PegCoats$Matching", "PegCoats$Passing", "PegCoats$Picture", "PegCoats$Reading", "PegCoats$Scanner", "PegCoats$State", "PegCoats$Tape", "PegCoats$Telling", "PegCoats$Works", "PegCoats", "PegCoatsModel", "PegCoatsLaw", "java/lang/Integer"].getD k ""
def fT_0 : u_T := fun k => [("PegCoats$Course", "works", "LPegCoats$Works;", true), ("PegCoats$Course", "putOn", "I", false), ("PegCoats$Course", "went", "I", false)].getD k ("", "", "", false)
def fY_0 : Nat → FieldType := fun k => [(.object "PegCoats$Works"), .int, .int].getD k .int
def fT_1 : u_T := fun k => [("PegCoats$History", "states", "[LPegCoats$State;", true), ("PegCoats$History", "count", "I", false), ("PegCoats$History", "next", "I", false)].getD k ("", "", "", false)
def fY_1 : Nat → FieldType := fun k => [(.array (.object "PegCoats$State")), .int, .int].getD k .int
def fT_2 : u_T := fun k => [("PegCoats$Matching", "works", "LPegCoats$Works;", true), ("PegCoats$Matching", "gain", "[[I", true), ("PegCoats$Matching", "best", "[[I", true)].getD k ("", "", "", false)
def fY_2 : Nat → FieldType := fun k => [(.object "PegCoats$Works"), (.array (.array .int)), (.array (.array .int))].getD k .int
def fT_3 : u_T := fun k => [("PegCoats$Passing", "works", "LPegCoats$Works;", true), ("PegCoats$Passing", "scene", "LPegCoats$State;", true), ("PegCoats$Passing", "firstLining", "[I", true), ("PegCoats$Passing", "known", "[I", true), ("PegCoats$Passing", "pairs", "[I", true)].getD k ("", "", "", false)
def fY_3 : Nat → FieldType := fun k => [(.object "PegCoats$Works"), (.object "PegCoats$State"), (.array .int), (.array .int), (.array .int)].getD k .int
def fT_4 : u_T := fun k => [("PegCoats$Picture", "works", "LPegCoats$Works;", true), ("PegCoats$Picture", "bytes", "[I", true), ("PegCoats$Picture", "length", "I", false)].getD k ("", "", "", false)
def fY_4 : Nat → FieldType := fun k => [(.object "PegCoats$Works"), (.array .int), .int].getD k .int
def fT_5 : u_T := fun k => [("PegCoats$Reading", "scan", "LPegCoats$Scanner;", true), ("PegCoats$Reading", "works", "LPegCoats$Works;", true), ("PegCoats$Reading", "fault", "I", false), ("PegCoats$Reading", "place", "I", false), ("PegCoats$Reading", "open", "I", false), ("PegCoats$Reading", "program", "I", false)].getD k ("", "", "", false)
def fY_5 : Nat → FieldType := fun k => [(.object "PegCoats$Scanner"), (.object "PegCoats$Works"), .int, .int, .int, .int].getD k .int
def fT_6 : u_T := fun k => [("PegCoats$Scanner", "tape", "LPegCoats$Tape;", true), ("PegCoats$Scanner", "ownWords", "[I", true), ("PegCoats$Scanner", "kind", "I", false), ("PegCoats$Scanner", "value", "I", false), ("PegCoats$Scanner", "word", "I", false), ("PegCoats$Scanner", "start", "I", false), ("PegCoats$Scanner", "place", "I", false), ("PegCoats$Scanner", "next", "I", false)].getD k ("", "", "", false)
def fY_6 : Nat → FieldType := fun k => [(.object "PegCoats$Tape"), (.array .int), .int, .int, .int, .int, .int, .int].getD k .int
def fT_7 : u_T := fun k => [("PegCoats$State", "lining", "[I", true), ("PegCoats$State", "burnt", "[Z", true), ("PegCoats$State", "size", "[I", true), ("PegCoats$State", "age", "[I", true), ("PegCoats$State", "worn", "[I", true), ("PegCoats$State", "purse", "[I", true), ("PegCoats$State", "there", "[Z", true), ("PegCoats$State", "year", "I", false), ("PegCoats$State", "keptYears", "I", false)].getD k ("", "", "", false)
def fY_7 : Nat → FieldType := fun k => [(.array .int), (.array .boolean), (.array .int), (.array .int), (.array .int), (.array .int), (.array .boolean), .int, .int].getD k .int
def fT_8 : u_T := fun k => [("PegCoats$Tape", "bytes", "[I", true), ("PegCoats$Tape", "length", "I", false)].getD k ("", "", "", false)
def fY_8 : Nat → FieldType := fun k => [(.array .int), .int].getD k .int
def fT_9 : u_T := fun k => [("PegCoats$Telling", "works", "LPegCoats$Works;", true), ("PegCoats$Telling", "course", "LPegCoats$Course;", true), ("PegCoats$Telling", "scene", "LPegCoats$State;", true), ("PegCoats$Telling", "rows", "[I", true), ("PegCoats$Telling", "rowCount", "I", false), ("PegCoats$Telling", "outfits", "[[I", true), ("PegCoats$Telling", "counts", "[I", true), ("PegCoats$Telling", "yearsKnown", "I", false), ("PegCoats$Telling", "left", "I", false), ("PegCoats$Telling", "bestYears", "I", false), ("PegCoats$Telling", "bestMan", "I", false), ("PegCoats$Telling", "bestMost", "I", false)].getD k ("", "", "", false)
def fY_9 : Nat → FieldType := fun k => [(.object "PegCoats$Works"), (.object "PegCoats$Course"), (.object "PegCoats$State"), (.array .int), .int, (.array (.array .int)), (.array .int), .int, .int, .int, .int, .int].getD k .int
def fT_10 : u_T := fun k => [("PegCoats$Works", "coatName", "[I", true), ("PegCoats$Works", "coatSize", "[I", true), ("PegCoats$Works", "coatPay", "[I", true), ("PegCoats$Works", "manName", "[I", true), ("PegCoats$Works", "manSize", "[I", true), ("PegCoats$Works", "manAge", "[I", true), ("PegCoats$Works", "manCoat", "[I", true), ("PegCoats$Works", "code", "[I", true), ("PegCoats$Works", "from", "[I", true), ("PegCoats$Works", "to", "[I", true), ("PegCoats$Works", "values", "[I", true), ("PegCoats$Works", "stack", "[I", true), ("PegCoats$Works", "coats", "I", false), ("PegCoats$Works", "men", "I", false), ("PegCoats$Works", "codes", "I", false), ("PegCoats$Works", "fire", "I", false), ("PegCoats$Works", "statements", "I", false)].getD k ("", "", "", false)
def fY_10 : Nat → FieldType := fun k => [(.array .int), (.array .int), (.array .int), (.array .int), (.array .int), (.array .int), (.array .int), (.array .int), (.array .int), (.array .int), (.array .int), (.array .int), .int, .int, .int, .int, .int].getD k .int
def fT_11 : u_T := fun k => [("PegCoats", "tape", "LPegCoats$Tape;", true), ("PegCoats", "told", "LPegCoats$Works;", true), ("PegCoats", "trial", "LPegCoats$Works;", true), ("PegCoats", "reading", "LPegCoats$Reading;", true), ("PegCoats", "course", "LPegCoats$Course;", true), ("PegCoats", "now", "LPegCoats$State;", true), ("PegCoats", "ahead", "LPegCoats$State;", true), ("PegCoats", "waiting", "LPegCoats$State;", true), ("PegCoats", "history", "LPegCoats$History;", true), ("PegCoats", "matching", "LPegCoats$Matching;", true), ("PegCoats", "passing", "LPegCoats$Passing;", true), ("PegCoats", "telling", "LPegCoats$Telling;", true), ("PegCoats", "picture", "LPegCoats$Picture;", true), ("PegCoats", "log", "[I", true), ("PegCoats", "refusals", "[I", true), ("PegCoats", "drawn", "I", false)].getD k ("", "", "", false)
def fY_11 : Nat → FieldType := fun k => [(.object "PegCoats$Tape"), (.object "PegCoats$Works"), (.object "PegCoats$Works"), (.object "PegCoats$Reading"), (.object "PegCoats$Course"), (.object "PegCoats$State"), (.object "PegCoats$State"), (.object "PegCoats$State"), (.object "PegCoats$History"), (.object "PegCoats$Matching"), (.object "PegCoats$Passing"), (.object "PegCoats$Telling"), (.object "PegCoats$Picture"), (.array .int), (.array .int), .int].getD k .int
def fT_12 : u_T := fun k => [("PegCoatsModel", "tape", "[I", true), ("PegCoatsModel", "taped", "I", false), ("PegCoatsModel", "size", "I", false), ("PegCoatsModel", "sign", "I", false), ("PegCoatsModel", "signAt", "I", false), ("PegCoatsModel", "signEnd", "I", false), ("PegCoatsModel", "value", "I", false), ("PegCoatsModel", "word", "J", false), ("PegCoatsModel", "faultKind", "I", false), ("PegCoatsModel", "faultPlace", "I", false), ("PegCoatsModel", "toldKind", "I", false), ("PegCoatsModel", "toldPlace", "I", false), ("PegCoatsModel", "lexAt", "I", false), ("PegCoatsModel", "bank", "I", false), ("PegCoatsModel", "coats", "[I", true), ("PegCoatsModel", "sizeTold", "[I", true), ("PegCoatsModel", "payOf", "[I", true), ("PegCoatsModel", "men", "[I", true), ("PegCoatsModel", "bodyTold", "[I", true), ("PegCoatsModel", "ageTold", "[I", true), ("PegCoatsModel", "wearsTold", "[I", true), ("PegCoatsModel", "fireTold", "[I", true), ("PegCoatsModel", "sumFrom", "[I", true), ("PegCoatsModel", "sumBehind", "[I", true), ("PegCoatsModel", "codeSort", "[I", true), ("PegCoatsModel", "codeValue", "[I", true), ("PegCoatsModel", "coatName", "[J", true), ("PegCoatsModel", "manName", "[J", true), ("PegCoatsModel", "codes", "I", false), ("PegCoatsModel", "in", "I", false), ("PegCoatsModel", "law", "I", false), ("PegCoatsModel", "frame", "[I", true), ("PegCoatsModel", "phase", "[I", true), ("PegCoatsModel", "begins", "[Z", true), ("PegCoatsModel", "pair", "[I", true), ("PegCoatsModel", "base", "[I", true), ("PegCoatsModel", "deep", "I", false), ("PegCoatsModel", "open", "I", false), ("PegCoatsModel", "ops", "[I", true), ("PegCoatsModel", "opMany", "I", false), ("PegCoatsModel", "operand", "Z", false), ("PegCoatsModel", "refused", "[I", true), ("PegCoatsModel", "yearOf", "[I", true), ("PegCoatsModel", "burntOf", "[I", true), ("PegCoatsModel", "liningOf", "[I", true), ("PegCoatsModel", "sizeOf", "[I", true), ("PegCoatsModel", "ageOf", "[I", true), ("PegCoatsModel", "coatOf", "[I", true), ("PegCoatsModel", "purseOf", "[I", true), ("PegCoatsModel", "goneOf", "[I", true), ("PegCoatsModel", "keptMany", "[I", true), ("PegCoatsModel", "keptRow", "[I", true), ("PegCoatsModel", "undoFirst", "I", false), ("PegCoatsModel", "undos", "I", false), ("PegCoatsModel", "seeds", "J", false), ("PegCoatsModel", "stack", "[J", true), ("PegCoatsModel", "asked", "[I", true), ("PegCoatsModel", "mostFrom", "[I", true), ("PegCoatsModel", "pairOf", "[I", true), ("PegCoatsModel", "row", "[I", true), ("PegCoatsModel", "rows", "I", false), ("PegCoatsModel", "rowYears", "[I", true), ("PegCoatsModel", "rowMan", "[I", true), ("PegCoatsModel", "rowCoat", "[I", true), ("PegCoatsModel", "coatBy", "[I", true), ("PegCoatsModel", "out", "[I", true), ("PegCoatsModel", "outs", "I", false)].getD k ("", "", "", false)
def fY_12 : Nat → FieldType := fun k => [(.array .int), .int, .int, .int, .int, .int, .int, .long, .int, .int, .int, .int, .int, .int, (.array .int), (.array .int), (.array .int), (.array .int), (.array .int), (.array .int), (.array .int), (.array .int), (.array .int), (.array .int), (.array .int), (.array .int), (.array .long), (.array .long), .int, .int, .int, (.array .int), (.array .int), (.array .boolean), (.array .int), (.array .int), .int, .int, (.array .int), .int, .boolean, (.array .int), (.array .int), (.array .int), (.array .int), (.array .int), (.array .int), (.array .int), (.array .int), (.array .int), (.array .int), (.array .int), .int, .int, .long, (.array .long), (.array .int), (.array .int), (.array .int), (.array .int), .int, (.array .int), (.array .int), (.array .int), (.array .int), (.array .int), .int].getD k .int
abbrev pj_cl : List vw_C := [("PegCoats$Course", fT_0, 3), ("PegCoats$History", fT_1, 3), ("PegCoats$Matching", fT_2, 3), ("PegCoats$Passing", fT_3, 5), ("PegCoats$Picture", fT_4, 3), ("PegCoats$Reading", fT_5, 6), ("PegCoats$Scanner", fT_6, 8), ("PegCoats$State", fT_7, 9), ("PegCoats$Tape", fT_8, 2), ("PegCoats$Telling", fT_9, 12), ("PegCoats$Works", fT_10, 17), ("PegCoats", fT_11, 16), ("PegCoatsModel", fT_12, 67)]
def pj_ty (c : Nat) : Nat → FieldType := [fY_0, fY_1, fY_2, fY_3, fY_4, fY_5, fY_6, fY_7, fY_8, fY_9, fY_10, fY_11, fY_12].getD c (fun _ => .int)
/-- 0 int, 1 long, 2 a reference, 3 boolean -/
def pj_ftc : FieldType → Nat
  | .int => 0
  | .long => 1
  | .boolean => 3
  | _ => 2
def pj_ft (c j : Nat) : Nat := pj_ftc (pj_ty c j)
def pj_nf (c : Nat) : Nat := [3, 3, 3, 5, 3, 6, 8, 9, 2, 12, 17, 16, 67].getD c 0
def cpF_0 : List (Nat × Nat × Nat × Nat × Nat × Nat × Bool) := [(8, 9, 8, 0, 2, 35, false), (8, 15, 8, 1, 0, 36, false), (11, 120, 8, 1, 0, 37, true), (9, 57, 8, 1, 0, 38, true), (6, 49, 8, 1, 0, 39, true), (4, 62, 8, 1, 0, 40, true), (10, 9, 10, 0, 2, 53, false), (5, 101, 10, 0, 2, 54, true), (11, 195, 10, 0, 2, 55, true), (10, 15, 10, 1, 2, 56, false), (5, 112, 10, 1, 2, 57, true), (11, 208, 10, 1, 2, 58, true), (10, 18, 10, 2, 2, 59, false), (5, 115, 10, 2, 2, 60, true), (0, 89, 10, 2, 2, 61, true), (11, 211, 10, 2, 2, 62, true), (10, 21, 10, 3, 2, 63, false), (5, 121, 10, 3, 2, 64, true), (11, 205, 10, 3, 2, 65, true), (10, 24, 10, 4, 2, 66, false), (7, 53, 10, 4, 2, 67, true), (5, 124, 10, 4, 2, 68, true), (10, 27, 10, 5, 2, 69, false), (7, 56, 10, 5, 2, 70, true), (5, 127, 10, 5, 2, 71, true), (10, 30, 10, 6, 2, 72, false), (7, 59, 10, 6, 2, 73, true), (5, 130, 10, 6, 2, 74, true), (10, 33, 10, 7, 2, 75, false), (5, 205, 10, 7, 2, 76, true), (10, 36, 10, 8, 2, 77, false), (5, 150, 10, 8, 2, 78, true), (10, 39, 10, 9, 2, 79, false), (5, 162, 10, 9, 2, 80, true), (10, 42, 10, 10, 2, 81, false), (10, 45, 10, 11, 2, 82, false), (10, 48, 10, 12, 0, 83, false), (7, 41, 10, 12, 0, 84, true), (2, 29, 10, 12, 0, 85, true), (4, 32, 10, 12, 0, 86, true), (9, 71, 10, 12, 0, 87, true), (5, 98, 10, 12, 0, 88, true), (11, 155, 10, 12, 0, 89, true), (0, 92, 10, 12, 0, 90, true), (10, 52, 10, 13, 0, 91, false), (2, 23, 10, 13, 0, 92, true), (3, 41, 10, 13, 0, 93, true), (7, 50, 10, 13, 0, 94, true), (4, 44, 10, 13, 0, 95, true), (0, 41, 10, 13, 0, 96, true), (9, 66, 10, 13, 0, 97, true), (5, 118, 10, 13, 0, 98, true), (11, 158, 10, 13, 0, 99, true), (10, 55, 10, 14, 0, 100, false), (5, 153, 10, 14, 0, 101, true), (10, 58, 10, 15, 0, 102, false), (5, 88, 10, 15, 0, 103, true), (11, 369, 10, 15, 0, 104, true), (10, 61, 10, 16, 0, 105, false), (5, 55, 10, 16, 0, 106, true)]
def cpF_1 : List (Nat × Nat × Nat × Nat × Nat × Nat × Bool) := [(11, 146, 10, 16, 0, 107, true), (6, 34, 6, 0, 2, 196, false), (6, 9, 6, 1, 2, 197, false), (6, 15, 6, 2, 0, 198, false), (5, 49, 6, 2, 0, 199, true), (6, 19, 6, 3, 0, 200, false), (5, 187, 6, 3, 0, 201, true), (6, 22, 6, 4, 0, 202, false), (5, 65, 6, 4, 0, 203, true), (6, 25, 6, 5, 0, 204, false), (5, 58, 6, 5, 0, 205, true), (6, 28, 6, 6, 0, 206, false), (5, 208, 6, 6, 0, 207, true), (6, 31, 6, 7, 0, 208, false), (5, 29, 5, 0, 2, 227, false), (5, 33, 5, 1, 2, 228, false), (5, 9, 5, 2, 0, 229, false), (11, 149, 5, 2, 0, 230, true), (5, 15, 5, 3, 0, 231, false), (11, 152, 5, 3, 0, 232, true), (5, 18, 5, 4, 0, 233, false), (5, 21, 5, 5, 0, 234, false), (0, 18, 0, 0, 2, 254, false), (0, 9, 0, 1, 0, 255, false), (11, 318, 0, 1, 0, 256, true), (0, 15, 0, 2, 0, 257, false), (11, 364, 0, 2, 0, 258, true), (7, 9, 7, 0, 2, 272, false), (3, 51, 7, 0, 2, 273, true), (4, 41, 7, 0, 2, 274, true), (2, 51, 7, 0, 2, 275, true), (0, 95, 7, 0, 2, 276, true), (11, 214, 7, 0, 2, 277, true), (7, 15, 7, 1, 2, 278, false), (4, 37, 7, 1, 2, 279, true), (2, 38, 7, 1, 2, 280, true), (11, 217, 7, 1, 2, 281, true), (7, 19, 7, 2, 2, 282, false), (2, 41, 7, 2, 2, 283, true), (4, 47, 7, 2, 2, 284, true), (0, 50, 7, 2, 2, 285, true), (11, 224, 7, 2, 2, 286, true), (3, 101, 7, 2, 2, 287, true), (10, 90, 7, 2, 2, 288, true), (7, 22, 7, 3, 2, 289, false), (2, 45, 7, 3, 2, 290, true), (4, 50, 7, 3, 2, 291, true), (0, 54, 7, 3, 2, 292, true), (11, 227, 7, 3, 2, 293, true), (3, 104, 7, 3, 2, 294, true), (10, 95, 7, 3, 2, 295, true), (7, 25, 7, 4, 2, 296, false), (3, 38, 7, 4, 2, 297, true), (4, 53, 7, 4, 2, 298, true), (0, 71, 7, 4, 2, 299, true), (9, 94, 7, 4, 2, 300, true), (11, 230, 7, 4, 2, 301, true), (10, 104, 7, 4, 2, 302, true), (7, 28, 7, 5, 2, 303, false), (4, 56, 7, 5, 2, 304, true)]
def cpF_2 : List (Nat × Nat × Nat × Nat × Nat × Nat × Bool) := [(0, 86, 7, 5, 2, 305, true), (11, 233, 7, 5, 2, 306, true), (10, 101, 7, 5, 2, 307, true), (7, 31, 7, 6, 2, 308, false), (2, 32, 7, 6, 2, 309, true), (4, 59, 7, 6, 2, 310, true), (0, 46, 7, 6, 2, 311, true), (3, 88, 7, 6, 2, 312, true), (11, 236, 7, 6, 2, 313, true), (7, 34, 7, 7, 0, 314, false), (4, 23, 7, 7, 0, 315, true), (0, 36, 7, 7, 0, 316, true), (2, 48, 7, 7, 0, 317, true), (9, 87, 7, 7, 0, 318, true), (11, 161, 7, 7, 0, 319, true), (3, 107, 7, 7, 0, 320, true), (10, 98, 7, 7, 0, 321, true), (7, 38, 7, 8, 0, 322, false), (4, 69, 7, 8, 0, 323, true), (11, 338, 7, 8, 0, 324, true), (1, 11, 1, 0, 2, 354, false), (1, 17, 1, 1, 0, 355, false), (11, 189, 1, 1, 0, 356, true), (1, 21, 1, 2, 0, 357, false), (2, 19, 2, 0, 2, 373, false), (2, 11, 2, 1, 2, 374, false), (2, 16, 2, 2, 2, 375, false), (3, 30, 3, 0, 2, 391, false), (3, 14, 3, 1, 2, 392, false), (3, 20, 3, 2, 2, 393, false), (3, 24, 3, 3, 2, 394, false), (3, 27, 3, 4, 2, 395, false), (11, 279, 3, 4, 2, 396, true), (9, 49, 9, 0, 2, 417, false), (9, 53, 9, 1, 2, 418, false), (9, 12, 9, 2, 2, 419, false), (9, 18, 9, 3, 2, 420, false), (9, 22, 9, 4, 0, 421, false), (11, 186, 9, 4, 0, 422, true), (9, 28, 9, 5, 2, 423, false), (9, 31, 9, 6, 2, 424, false), (9, 34, 9, 7, 0, 425, false), (9, 37, 9, 8, 0, 426, false), (11, 297, 9, 8, 0, 427, true), (9, 40, 9, 9, 0, 428, false), (11, 303, 9, 9, 0, 429, true), (9, 43, 9, 10, 0, 430, false), (11, 306, 9, 10, 0, 431, true), (9, 46, 9, 11, 0, 432, false), (11, 309, 9, 11, 0, 433, true), (4, 19, 4, 0, 2, 465, false), (4, 11, 4, 1, 2, 466, false), (11, 345, 4, 1, 2, 467, true), (4, 15, 4, 2, 0, 468, false), (11, 344, 4, 2, 0, 469, true), (11, 12, 11, 0, 2, 485, false), (11, 19, 11, 1, 2, 486, false), (11, 23, 11, 2, 2, 487, false), (11, 31, 11, 3, 2, 488, false), (11, 40, 11, 4, 2, 489, false)]
def cpF_3 : List (Nat × Nat × Nat × Nat × Nat × Nat × Bool) := [(11, 47, 11, 5, 2, 490, false), (11, 51, 11, 6, 2, 491, false), (11, 54, 11, 7, 2, 492, false), (11, 60, 11, 8, 2, 493, false), (11, 67, 11, 9, 2, 494, false), (11, 74, 11, 10, 2, 495, false), (11, 83, 11, 11, 2, 496, false), (11, 90, 11, 12, 2, 497, false), (11, 94, 11, 13, 2, 498, false), (11, 98, 11, 14, 2, 499, false), (11, 101, 11, 15, 0, 500, false), (12, 7, 12, 0, 2, 1166, false), (12, 13, 12, 1, 0, 1167, false), (12, 17, 12, 2, 0, 1168, false), (12, 20, 12, 3, 0, 1169, false), (12, 23, 12, 4, 0, 1170, false), (12, 26, 12, 5, 0, 1171, false), (12, 29, 12, 6, 0, 1172, false), (12, 32, 12, 7, 1, 1173, false), (12, 36, 12, 8, 0, 1174, false), (12, 39, 12, 9, 0, 1175, false), (12, 42, 12, 10, 0, 1176, false), (12, 45, 12, 11, 0, 1177, false), (12, 48, 12, 12, 0, 1178, false), (12, 51, 12, 13, 0, 1179, false), (12, 54, 12, 14, 2, 1180, false), (12, 57, 12, 15, 2, 1181, false), (12, 60, 12, 16, 2, 1182, false), (12, 63, 12, 17, 2, 1183, false), (12, 66, 12, 18, 2, 1184, false), (12, 69, 12, 19, 2, 1185, false), (12, 72, 12, 20, 2, 1186, false), (12, 75, 12, 21, 2, 1187, false), (12, 78, 12, 22, 2, 1188, false), (12, 81, 12, 23, 2, 1189, false), (12, 84, 12, 24, 2, 1190, false), (12, 87, 12, 25, 2, 1191, false), (12, 90, 12, 26, 2, 1192, false), (12, 94, 12, 27, 2, 1193, false), (12, 97, 12, 28, 0, 1194, false), (12, 100, 12, 29, 0, 1195, false), (12, 103, 12, 30, 0, 1196, false), (12, 106, 12, 31, 2, 1197, false), (12, 109, 12, 32, 2, 1198, false), (12, 112, 12, 33, 2, 1199, false), (12, 116, 12, 34, 2, 1200, false), (12, 119, 12, 35, 2, 1201, false), (12, 122, 12, 36, 0, 1202, false), (12, 125, 12, 37, 0, 1203, false), (12, 128, 12, 38, 2, 1204, false), (12, 131, 12, 39, 0, 1205, false), (12, 134, 12, 40, 3, 1206, false), (12, 138, 12, 41, 2, 1207, false), (12, 141, 12, 42, 2, 1208, false), (12, 144, 12, 43, 2, 1209, false), (12, 147, 12, 44, 2, 1210, false), (12, 150, 12, 45, 2, 1211, false), (12, 153, 12, 46, 2, 1212, false), (12, 156, 12, 47, 2, 1213, false), (12, 159, 12, 48, 2, 1214, false)]
def cpF_4 : List (Nat × Nat × Nat × Nat × Nat × Nat × Bool) := [(12, 162, 12, 49, 2, 1215, false), (12, 165, 12, 50, 2, 1216, false), (12, 168, 12, 51, 2, 1217, false), (12, 171, 12, 52, 0, 1218, false), (12, 174, 12, 53, 0, 1219, false), (12, 177, 12, 54, 1, 1220, false), (12, 180, 12, 55, 2, 1221, false), (12, 183, 12, 56, 2, 1222, false), (12, 186, 12, 57, 2, 1223, false), (12, 189, 12, 58, 2, 1224, false), (12, 192, 12, 59, 2, 1225, false), (12, 195, 12, 60, 0, 1226, false), (12, 198, 12, 61, 2, 1227, false), (12, 201, 12, 62, 2, 1228, false), (12, 204, 12, 63, 2, 1229, false), (12, 207, 12, 64, 2, 1230, false), (12, 210, 12, 65, 2, 1231, false), (12, 213, 12, 66, 0, 1232, false)]
def cpF : List (Nat × Nat × Nat × Nat × Nat × Nat × Bool) := cpF_0 ++ cpF_1 ++ cpF_2 ++ cpF_3 ++ cpF_4
def cpM_0 : List (Nat × Nat × Nat × Nat × Bool) := [(13, 9, 110, 23, false), (11, 3, 1000, 26, false), (11, 11, 81, 31, true), (8, 3, 1000, 34, false), (11, 18, 98, 49, true), (10, 3, 1000, 52, false), (11, 28, 35, 145, false), (5, 3, 1000, 148, false), (5, 26, 63, 151, false), (6, 3, 1000, 154, false), (6, 40, 1005, 156, false), (11, 37, 1, 250, false), (0, 3, 1000, 253, false), (11, 46, 70, 268, true), (7, 3, 1000, 271, false), (11, 59, 8, 347, false), (1, 3, 1000, 350, false), (1, 24, 70, 353, true), (11, 66, 12, 367, false), (2, 3, 1000, 370, false), (11, 73, 19, 385, false), (3, 5, 1000, 388, false), (3, 13, 70, 390, true), (11, 80, 87, 410, false), (9, 3, 1000, 413, false), (9, 11, 70, 415, true), (11, 89, 28, 461, false), (4, 3, 1000, 464, false), (11, 105, 71, 477, false), (7, 46, 99, 481, false), (13, 13, 111, 534, false), (11, 108, 82, 538, false), (11, 112, 112, 542, false), (11, 116, 83, 546, false), (13, 18, 113, 550, false), (11, 123, 84, 554, false), (11, 126, 114, 558, false), (13, 23, 115, 562, false), (11, 129, 36, 566, false), (5, 37, 100, 570, false), (5, 42, 64, 574, false), (6, 46, 65, 578, false), (6, 54, 85, 582, false), (6, 58, 66, 586, false), (6, 62, 67, 589, false), (6, 65, 68, 592, false), (5, 45, 37, 596, false), (5, 52, 38, 600, false), (5, 61, 39, 604, false), (5, 68, 40, 608, false), (5, 81, 65, 612, false), (5, 105, 41, 613, false), (5, 133, 42, 617, false), (5, 91, 43, 621, false), (5, 140, 101, 625, false), (5, 136, 102, 629, false), (5, 109, 44, 633, false), (5, 84, 45, 637, false), (5, 71, 46, 641, false), (5, 74, 47, 645, false)]
def cpM_1 : List (Nat × Nat × Nat × Nat × Bool) := [(5, 143, 99, 649, false), (5, 77, 48, 650, false), (5, 146, 103, 654, false), (5, 156, 49, 658, false), (5, 165, 50, 662, false), (5, 171, 51, 666, false), (5, 174, 52, 670, false), (5, 168, 53, 674, false), (5, 177, 69, 678, false), (5, 181, 54, 682, false), (5, 94, 55, 686, false), (5, 184, 56, 690, false), (5, 159, 57, 694, false), (5, 190, 58, 698, false), (5, 193, 59, 702, false), (5, 199, 60, 706, false), (5, 202, 61, 710, false), (5, 196, 62, 714, false), (11, 132, 86, 718, false), (11, 135, 37, 722, false), (11, 139, 104, 723, false), (10, 64, 1004, 727, false), (11, 142, 9, 730, false), (11, 143, 88, 734, false), (13, 28, 116, 738, false), (13, 33, 117, 742, false), (11, 164, 72, 746, false), (11, 167, 73, 750, false), (11, 170, 265, 754, false), (11, 175, 74, 760, false), (7, 68, 73, 764, false), (11, 179, 75, 765, false), (11, 182, 118, 769, false), (11, 359, 1001, 773, false), (13, 37, 119, 776, false), (11, 192, 120, 780, false), (11, 198, 121, 784, false), (11, 202, 122, 787, false), (13, 42, 123, 791, false), (11, 221, 76, 795, false), (13, 47, 124, 799, false), (13, 51, 125, 803, false), (11, 241, 105, 808, false), (10, 70, 103, 812, false), (10, 74, 1003, 813, false), (10, 80, 106, 816, false), (10, 107, 107, 820, false), (13, 56, 126, 827, false), (11, 245, 127, 831, false), (11, 249, 128, 835, false), (11, 255, 77, 839, false), (7, 62, 1004, 843, false), (11, 258, 2, 844, false), (0, 22, 3, 848, false), (0, 57, 108, 852, false), (10, 83, 1001, 856, false), (10, 87, 1002, 857, false), (0, 61, 1001, 860, false), (0, 26, 4, 861, false), (0, 67, 109, 865, false)]
def cpM_2 : List (Nat × Nat × Nat × Nat × Bool) := [(0, 29, 5, 869, false), (0, 74, 74, 873, false), (0, 78, 6, 874, false), (0, 98, 105, 878, false), (0, 82, 78, 879, false), (0, 33, 7, 883, false), (13, 60, 129, 887, false), (13, 64, 130, 891, false), (11, 252, 131, 895, false), (13, 68, 132, 899, false), (11, 262, 13, 903, false), (2, 54, 105, 907, false), (2, 58, 1002, 908, false), (2, 64, 265, 909, false), (2, 70, 14, 910, false), (2, 73, 15, 914, false), (11, 265, 16, 918, false), (11, 268, 17, 922, false), (2, 77, 18, 926, false), (13, 72, 133, 930, false), (11, 271, 134, 934, false), (11, 352, 135, 938, false), (11, 355, 125, 942, false), (13, 76, 136, 943, false), (11, 275, 20, 947, false), (3, 34, 77, 951, false), (3, 47, 76, 952, false), (3, 54, 1004, 953, false), (3, 61, 21, 955, false), (3, 65, 22, 959, false), (3, 68, 23, 963, false), (3, 92, 24, 967, false), (3, 96, 1001, 971, false), (3, 110, 105, 972, false), (3, 72, 25, 973, false), (3, 76, 26, 977, false), (3, 80, 79, 981, false), (7, 71, 78, 985, false), (3, 84, 27, 986, false), (13, 80, 137, 990, false), (13, 84, 138, 994, false), (11, 282, 6, 998, false), (13, 88, 139, 999, false), (11, 286, 89, 1003, false), (9, 62, 85, 1007, false), (13, 92, 140, 1008, false), (11, 290, 90, 1012, false), (9, 74, 1002, 1016, false), (11, 293, 91, 1017, false), (9, 80, 92, 1021, false), (9, 111, 74, 1025, false), (9, 84, 1001, 1026, false), (9, 90, 77, 1027, false), (9, 97, 93, 1028, false), (9, 101, 2, 1032, false), (9, 107, 94, 1033, false), (9, 115, 95, 1037, false), (13, 96, 141, 1041, false), (11, 300, 96, 1045, false), (9, 119, 97, 1049, false)]
def cpM_3 : List (Nat × Nat × Nat × Nat × Bool) := [(13, 100, 142, 1053, false), (11, 312, 10, 1057, false), (1, 25, 77, 1061, false), (1, 29, 1001, 1062, false), (11, 315, 143, 1063, false), (13, 104, 144, 1067, false), (11, 321, 145, 1071, false), (11, 367, 146, 1075, false), (11, 372, 80, 1082, false), (7, 75, 76, 1086, false), (13, 108, 147, 1087, false), (11, 324, 79, 1091, false), (13, 113, 148, 1092, false), (11, 328, 149, 1096, false), (11, 331, 78, 1100, false), (13, 117, 150, 1101, false), (13, 121, 151, 1105, false), (11, 334, 11, 1109, false), (13, 126, 152, 1113, false), (13, 130, 153, 1117, false), (13, 134, 154, 1121, false), (11, 341, 29, 1125, false), (4, 28, 30, 1129, false), (13, 138, 155, 1133, false), (13, 142, 156, 1137, false), (11, 348, 31, 1141, false), (4, 65, 32, 1145, false), (4, 72, 85, 1148, false), (4, 76, 33, 1149, false), (4, 80, 34, 1152, false), (13, 146, 157, 1156, false), (13, 12, 158, 1162, false), (12, 1, 1000, 1165, false), (13, 17, 159, 1369, false), (12, 216, 160, 1373, false), (12, 220, 161, 1377, false), (13, 22, 162, 1381, false), (13, 27, 163, 1385, false), (12, 241, 164, 1389, false), (12, 228, 165, 1393, false), (12, 232, 166, 1396, false), (12, 376, 167, 1399, false), (12, 235, 168, 1403, false), (12, 224, 169, 1407, false), (12, 304, 170, 1412, false), (12, 359, 171, 1416, false), (12, 333, 172, 1420, false), (12, 337, 173, 1424, false), (12, 323, 174, 1428, false), (12, 326, 175, 1453, false), (12, 330, 176, 1457, false), (12, 341, 177, 1461, false), (12, 345, 178, 1465, false), (12, 288, 179, 1469, false), (12, 362, 180, 1472, false), (12, 365, 181, 1476, false), (12, 349, 182, 1480, false), (12, 352, 183, 1484, false), (12, 368, 184, 1488, false), (12, 355, 185, 1492, false)]
def cpM_4 : List (Nat × Nat × Nat × Nat × Bool) := [(12, 298, 186, 1496, false), (12, 317, 187, 1500, false), (12, 301, 188, 1504, false), (12, 308, 189, 1507, false), (12, 238, 190, 1511, false), (12, 311, 191, 1515, false), (12, 295, 192, 1519, false), (12, 320, 193, 1523, false), (12, 314, 194, 1527, false), (12, 292, 195, 1531, false), (12, 371, 196, 1534, false), (12, 379, 197, 1538, false), (12, 374, 198, 1542, false), (12, 382, 199, 1546, false), (13, 32, 200, 1550, false), (13, 149, 201, 1554, false), (13, 125, 202, 1558, false), (12, 385, 203, 1562, false), (12, 388, 204, 1566, false), (13, 36, 205, 1570, false), (12, 430, 206, 1574, false), (12, 407, 207, 1578, false), (12, 427, 208, 1581, false), (12, 411, 209, 1585, false), (13, 41, 210, 1589, false), (12, 453, 211, 1593, false), (12, 450, 212, 1597, false), (13, 46, 213, 1602, false), (13, 50, 214, 1606, false), (13, 55, 215, 1610, false), (12, 458, 216, 1614, false), (12, 421, 217, 1618, false), (12, 414, 218, 1622, false), (12, 417, 219, 1626, false), (12, 403, 220, 1630, false), (12, 395, 221, 1633, false), (12, 399, 222, 1638, false), (13, 59, 223, 1642, false), (12, 467, 224, 1646, false), (12, 470, 225, 1650, false), (12, 464, 226, 1654, false), (12, 433, 227, 1658, false), (12, 436, 228, 1663, false), (12, 439, 229, 1667, false), (12, 443, 230, 1671, false), (12, 447, 231, 1675, false), (13, 63, 232, 1679, false), (13, 67, 233, 1683, false), (12, 473, 234, 1687, false), (13, 71, 235, 1691, false), (12, 476, 236, 1695, false), (12, 479, 237, 1698, false), (13, 75, 238, 1702, false), (13, 79, 239, 1706, false), (12, 485, 240, 1710, false), (12, 482, 241, 1714, false), (13, 83, 242, 1718, false), (13, 87, 243, 1722, false), (13, 91, 244, 1726, false), (13, 95, 245, 1730, false)]
def cpM_5 : List (Nat × Nat × Nat × Nat × Bool) := [(12, 488, 246, 1734, false), (13, 99, 247, 1738, false), (12, 492, 248, 1743, false), (13, 103, 249, 1747, false), (12, 495, 250, 1751, false), (13, 107, 251, 1755, false), (12, 506, 252, 1759, false), (12, 509, 253, 1767, false), (13, 112, 254, 1771, false), (13, 116, 255, 1775, false), (13, 120, 256, 1779, false), (13, 129, 257, 1783, false), (13, 133, 258, 1787, false), (13, 137, 259, 1791, false), (12, 513, 260, 1795, false), (13, 141, 261, 1799, false), (13, 145, 262, 1803, false), (12, 519, 263, 1807, false), (12, 516, 264, 1811, false)]
def cpM : List (Nat × Nat × Nat × Nat × Bool) := cpM_0 ++ cpM_1 ++ cpM_2 ++ cpM_3 ++ cpM_4 ++ cpM_5
def cpI : List (Nat × Nat × Int32 × Nat) := [(14, 265, (1431655765), 757), (14, 266, (858993459), 758), (14, 267, (252645135), 759), (10, 113, (1000000), 824), (10, 116, (-1000000), 826), (3, 60, (-2147483648), 954), (12, 491, (100000000), 1742)]
def cpL : List (Nat × Nat × Int64 × Nat) := [(11, 239, (-1000000000000000), 807), (10, 111, (1000000), 823), (10, 114, (-1000000), 825), (11, 375, (1103515245), 1079), (11, 377, (12345), 1080), (11, 379, (2147483647), 1081), (12, 244, (1668243828), 1411), (12, 246, (1936292453), 1432), (12, 248, (7364985), 1433), (12, 250, (7168366), 1434), (12, 252, (6383461), 1435), (12, 254, (512801993331), 1436), (12, 256, (28518), 1437), (12, 258, (512735997299), 1438), (12, 260, (444301539187), 1439), (12, 262, (119182682645875), 1440), (12, 264, (1718186597), 1441), (12, 266, (2036687218), 1442), (12, 268, (119200079769191), 1443), (12, 270, (483006772069), 1444), (12, 272, (109330027537764), 1445), (12, 274, (26982), 1446), (12, 276, (28530), 1447), (12, 278, (6385252), 1448), (12, 280, (7237492), 1449), (12, 282, (6384748), 1450), (12, 284, (7170414), 1451), (12, 286, (7168376), 1452), (12, 456, (255), 1601), (12, 391, (1000000), 1636), (12, 393, (-1000000), 1637), (12, 462, (-1000000000000000), 1641), (12, 425, (99), 1662), (12, 498, (1103515245), 1763), (12, 500, (12345), 1764), (12, 502, (2147483648), 1765), (12, 504, (64), 1766)]
def cpC : List (Nat × Nat × Nat × Nat) := [(13, 7, 11, 21), (11, 9, 8, 29), (11, 16, 10, 47), (11, 26, 5, 143), (5, 24, 6, 149), (11, 35, 0, 248), (11, 44, 7, 266), (11, 57, 1, 345), (1, 9, 7, 351), (11, 64, 2, 365), (11, 71, 3, 383), (3, 11, 7, 389), (11, 78, 9, 408), (9, 9, 7, 414), (11, 87, 4, 459), (13, 10, 12, 1160)]
end
section
/-! the tables hold: field entries, calls, constants, classes, by their places in tables_1 -/
/-- words that a call hands on -/
def pj_isN : Cond → Bool
  | .fieldLinkNest _ _ _ _ _ _ => true
  | .methodLinkNest _ _ _ _ => true
  | .stringRef _ _ _ => true
  | .arrayOver _ => true
  | _ => false
def pj_gw (w : Cond) : Bool := goodWord w || pj_isN w
def pj_tbl : List Cond := lw_tbl.filter pj_gw
theorem pj_tm {w : Cond} (h : w ∈ tables_1) (hg : pj_gw w = true) : w ∈ pj_tbl := List.mem_filter.mpr ⟨List.mem_append_right _ h, hg⟩
theorem pj_tb {k : Nat} {w : Cond} (h : tables_1[k]? = some w) (hg : pj_gw w = true := by rfl) : w ∈ pj_tbl := pj_tm (List.mem_of_getElem? h) hg
def pj_okF (e : Nat × Nat × Nat × Nat × Nat × Nat × Bool) : Bool := match pj_cl[e.2.2.1]? with
  | none => false
  | some r => decide (e.2.2.2.1 < r.2.2) && decide ((r.2.1 e.2.2.2.1).1 = r.1) && decide (pj_ft e.2.2.1 e.2.2.2.1 = e.2.2.2.2.1) &&
    (match e.2.2.2.2.2.2 with
      | false => decide (tables_1[e.2.2.2.2.2.1]? = some (Cond.fieldLink (cn e.1) e.2.1 r.1 (r.2.1 e.2.2.2.1).2.1 (r.2.1 e.2.2.2.1).2.2.1))
      | true => decide (tables_1[e.2.2.2.2.2.1]? = some (Cond.fieldLinkNest (cn e.1) e.2.1 r.1 (r.2.1 e.2.2.2.1).2.1 (r.2.1 e.2.2.2.1).2.2.1 "PegCoats")))
set_option maxRecDepth 100000 in
theorem cpF_0_ok : cpF_0.all pj_okF = true := by decide +kernel
set_option maxRecDepth 100000 in
theorem cpF_1_ok : cpF_1.all pj_okF = true := by decide +kernel
set_option maxRecDepth 100000 in
theorem cpF_2_ok : cpF_2.all pj_okF = true := by decide +kernel
set_option maxRecDepth 100000 in
theorem cpF_3_ok : cpF_3.all pj_okF = true := by decide +kernel
set_option maxRecDepth 100000 in
theorem cpF_4_ok : cpF_4.all pj_okF = true := by decide +kernel
theorem cpF_ok : cpF.all pj_okF = true := by
  unfold cpF
  rw [List.all_append, List.all_append, List.all_append, List.all_append, cpF_0_ok, cpF_1_ok, cpF_2_ok, cpF_3_ok, cpF_4_ok]
  rfl
theorem pj_sp {f : Nat × List (Nat × pj_E) → Bool} (M : pj_M) (k : Nat) (h1 : (M.take k).all f = true) (h2 : (M.drop k).all f = true) : M.all f = true := by
  rw [← List.take_append_drop k M, List.all_append, h1, h2]
  rfl
def pj_oD (b : ByteArray) (c : Nat × List (Nat × pj_E)) : Bool := c.2.all fun q => decide (decode b q.1 = .ok (q.2.1, q.2.2.1))
def pj_okC (ci : Nat) : Bool := match pj_cl[ci]? with
  | none => false
  | some r => (u_ws r.1 r.2.1 r.2.2).all (fun w => decide (w ∈ tables_1) && pj_gw w) && (List.range r.2.2).all (fun k => decide (parseFieldDescriptor (r.2.1 k).2.2.1 = some (pj_ty ci k))) && (List.range r.2.2).all (fun a => (List.range r.2.2).all (fun b => decide (a = b) || decide ((r.2.1 a).2.1 ≠ (r.2.1 b).2.1))) && Nat.beq (pj_nf ci) r.2.2 && decide (Cond.instantiable r.1 r.2.2 ∈ tables_1) && decide (Cond.initialized r.1 ∈ tables_1) && decide (r.1 = cn ci)
set_option maxRecDepth 100000 in
theorem pj_okC_all : (List.range 13).all pj_okC = true := by decide +kernel
end
section
/-! methods: number of parameters; kind 0 instance, 1 static, 2 constructor; their words -/
def mpl : List (Nat × Nat) := [(1, 1), (1, 2), (2, 0), (1, 0), (1, 0), (2, 0), (4, 0), (1, 0), (0, 2), (0, 0), (1, 0), (1, 0), (1, 2), (1, 0), (2, 0), (3, 0), (0, 0), (1, 0), (2, 0), (1, 2), (3, 0), (4, 0), (4, 0), (2, 0), (3, 0), (6, 0), (1, 0), (3, 0), (1, 2), (1, 0), (1, 0), (2, 0), (1, 1), (4, 1), (4, 0), (2, 2), (0, 0), (0, 0), (0, 0), (2, 0), (0, 0), (0, 0), (0, 0), (0, 0), (1, 0), (2, 0), (0, 0), (0, 0), (1, 0), (0, 0), (0, 0), (0, 0), (0, 0), (1, 0), (1, 0), (1, 0), (0, 0), (0, 0), (0, 0), (0, 0), (1, 0), (1, 0), (0, 0), (1, 2), (0, 0), (0, 0), (1, 1), (1, 1), (1, 0), (1, 0), (0, 2), (1, 0), (1, 0), (1, 0), (1, 0), (1, 0), (2, 0), (1, 0), (2, 0), (2, 0), (2, 0), (0, 2), (1, 0), (1, 0), (1, 0), (1, 0), (0, 0), (2, 2), (0, 0), (1, 0), (0, 0), (3, 0), (2, 0), (0, 0), (1, 0), (3, 0), (0, 0), (2, 0), (0, 2), (1, 0), (0, 0), (1, 0), (1, 0), (1, 0), (1, 0), (5, 0), (1, 0), (3, 1), (3, 0), (2, 0), (0, 2), (5, 0), (1, 0), (1, 0), (1, 0), (0, 0), (1, 0), (1, 0), (0, 0), (3, 0), (1, 0), (2, 1), (1, 0), (2, 0), (2, 0), (2, 0), (2, 0), (3, 0), (1, 0), (2, 0), (1, 0), (1, 0), (1, 0), (1, 0), (2, 0), (3, 0), (3, 0), (2, 0), (2, 0), (0, 0), (1, 0), (2, 0), (1, 0), (0, 0), (1, 0), (0, 0), (1, 0), (2, 0), (2, 0), (1, 0), (1, 0), (0, 0), (1, 0), (2, 0), (0, 0), (1, 0), (0, 0), (1, 0), (0, 2), (5, 0), (1, 0), (1, 0), (1, 0), (0, 0), (0, 0), (1, 1), (1, 1), (0, 0), (0, 0), (2, 0), (1, 0), (0, 0), (1, 0), (0, 0), (1, 0), (1, 0), (1, 0), (1, 0), (2, 0), (3, 1), (0, 0), (0, 0), (0, 0), (1, 0), (1, 0), (1, 0), (1, 0), (0, 0), (1, 1), (1, 0), (1, 0), (1, 0), (2, 0), (0, 0), (1, 0), (1, 1), (0, 0), (1, 0), (1, 0), (0, 0), (1, 0), (1, 0), (0, 0), (1, 0), (2, 0), (1, 0), (2, 0), (2, 1), (2, 0), (2, 0), (3, 0), (1, 0), (1, 0), (2, 0), (2, 0), (2, 0), (3, 0), (4, 0), (1, 0), (1, 0), (3, 1), (1, 1), (2, 1), (2, 0), (3, 0), (1, 0), (2, 0), (2, 0), (2, 0), (3, 0), (3, 0), (3, 0), (2, 0), (1, 0), (1, 0), (1, 0), (2, 1), (3, 0), (1, 0), (3, 0), (2, 0), (3, 0), (2, 0), (2, 0), (0, 0), (1, 0), (1, 0), (2, 0), (3, 0), (1, 0), (0, 0), (1, 0), (1, 0), (0, 0), (2, 0), (2, 0), (1, 0), (1, 0), (2, 0), (0, 0), (1, 0), (1, 0), (0, 0), (1, 0), (2, 0), (1, 1)]
def mp (k : Nat) : Nat × Nat := mpl.getD k (0, 9)
theorem pj_tb1 {k : Nat} {w : Cond} (h : tables_1_1[k]? = some w) (hg : pj_gw w = true := by rfl) : w ∈ pj_tbl := pj_tm (by
  have h := List.mem_of_getElem? h
  unfold tables_1
  simp only [List.mem_append]
  simp [h]) hg
theorem pj_tb2 {k : Nat} {w : Cond} (h : tables_1_2[k]? = some w) (hg : pj_gw w = true := by rfl) : w ∈ pj_tbl := pj_tm (by
  have h := List.mem_of_getElem? h
  unfold tables_1
  simp only [List.mem_append]
  simp [h]) hg
theorem pj_tb3 {k : Nat} {w : Cond} (h : tables_1_3[k]? = some w) (hg : pj_gw w = true := by rfl) : w ∈ pj_tbl := pj_tm (by
  have h := List.mem_of_getElem? h
  unfold tables_1
  simp only [List.mem_append]
  simp [h]) hg
theorem pj_tb4 {k : Nat} {w : Cond} (h : tables_1_4[k]? = some w) (hg : pj_gw w = true := by rfl) : w ∈ pj_tbl := pj_tm (by
  have h := List.mem_of_getElem? h
  unfold tables_1
  simp only [List.mem_append]
  simp [h]) hg
theorem pj_tb5 {k : Nat} {w : Cond} (h : tables_1_5[k]? = some w) (hg : pj_gw w = true := by rfl) : w ∈ pj_tbl := pj_tm (by
  have h := List.mem_of_getElem? h
  unfold tables_1
  simp only [List.mem_append]
  simp [h]) hg
theorem pj_tb6 {k : Nat} {w : Cond} (h : tables_1_6[k]? = some w) (hg : pj_gw w = true := by rfl) : w ∈ pj_tbl := pj_tm (by
  have h := List.mem_of_getElem? h
  unfold tables_1
  simp only [List.mem_append]
  simp [h]) hg
theorem pj_tb7 {k : Nat} {w : Cond} (h : tables_1_7[k]? = some w) (hg : pj_gw w = true := by rfl) : w ∈ pj_tbl := pj_tm (by
  have h := List.mem_of_getElem? h
  unfold tables_1
  simp only [List.mem_append]
  simp [h]) hg
theorem pj_tb8 {k : Nat} {w : Cond} (h : tables_1_8[k]? = some w) (hg : pj_gw w = true := by rfl) : w ∈ pj_tbl := pj_tm (by
  have h := List.mem_of_getElem? h
  unfold tables_1
  simp only [List.mem_append]
  simp [h]) hg
theorem pj_tk {k : Nat} {w : Cond} (h : (k2_sels lw_privs)[k]? = some w) (hg : pj_gw w = true := by rfl) : w ∈ pj_tbl := List.mem_filter.mpr ⟨List.mem_append_left _ (List.mem_of_getElem? h), hg⟩
/-- a method's words -/
def pj_okP (k : Nat) (t : pj_T) : Prop := plainName t.1.1.cls = true ∧ t.1.1.cls = cn t.2.1.1 ∧ Cond.code t.1.1 t.1.2.1 t.1.2.2.1 t.1.2.2.2 ∈ pj_tbl ∧ Cond.initialized t.1.1.cls ∈ pj_tbl ∧ t.1.1.cls ≠ "java/lang/invoke/MethodHandle" ∧ t.1.1.cls ≠ "java/lang/invoke/VarHandle" ∧
  (parseMethodDescriptor t.1.1.desc).map (fun d => d.parameters.length) = some (mp k).1 ∧ t.1.2.2.1 ≤ 40 ∧ t.2.1.2 = decide (t.1.2.2.2 = some .boolean) ∧ (t.1.2.2.2 = none ∨ t.1.2.2.2 = some .int ∨ t.1.2.2.2 = some .long ∨ t.1.2.2.2 = some .boolean) ∧
  (((mp k).2 = 0 ∧ Cond.instanceMethod t.1.1 ∈ pj_tbl ∧ Cond.selects t.1.1.cls t.1.1 t.1.1 ∈ pj_tbl ∧ t.1.1.name ≠ "<init>") ∨ ((mp k).2 = 1 ∧ Cond.static t.1.1 ∈ pj_tbl ∧ t.1.1.name ≠ "<init>") ∨ ((mp k).2 = 2 ∧ Cond.instanceMethod t.1.1 ∈ pj_tbl ∧ t.1.1.name = "<init>" ∧ t.1.2.2.2 = none))
theorem mo_1 : pj_okP 1 mt_1 := ⟨by decide, rfl, (pj_tb2 (k := 12) (by rfl)), (pj_tb1 (k := 10) (by decide +kernel)), by decide, by decide, by decide +kernel, by decide, rfl, ⟨Or.inl rfl, Or.inr (Or.inr ⟨rfl, (pj_tb2 (k := 11) (by decide +kernel)), by decide, rfl⟩)⟩⟩
theorem mo_2 : pj_okP 2 mt_2 := ⟨by decide, rfl, (pj_tb4 (k := 127) (by rfl)), (pj_tb1 (k := 10) (by decide +kernel)), by decide, by decide, by decide +kernel, by decide, rfl, ⟨Or.inl rfl, Or.inl ⟨rfl, (pj_tb4 (k := 125) (by decide +kernel)), (pj_tb4 (k := 126) (by decide +kernel)), by decide⟩⟩⟩
theorem mo_3 : pj_okP 3 mt_3 := ⟨by decide, rfl, (pj_tb4 (k := 131) (by rfl)), (pj_tb1 (k := 10) (by decide +kernel)), by decide, by decide, by decide +kernel, by decide, rfl, ⟨Or.inl rfl, Or.inl ⟨rfl, (pj_tb4 (k := 130) (by decide +kernel)), (pj_tk (k := 34) (by decide +kernel)), by decide⟩⟩⟩
theorem mo_4 : pj_okP 4 mt_4 := ⟨by decide, rfl, (pj_tb4 (k := 144) (by rfl)), (pj_tb1 (k := 10) (by decide +kernel)), by decide, by decide, by decide +kernel, by decide, rfl, ⟨Or.inl rfl, Or.inl ⟨rfl, (pj_tb4 (k := 143) (by decide +kernel)), (pj_tk (k := 35) (by decide +kernel)), by decide⟩⟩⟩
theorem mo_5 : pj_okP 5 mt_5 := ⟨by decide, rfl, (pj_tb4 (k := 152) (by rfl)), (pj_tb1 (k := 10) (by decide +kernel)), by decide, by decide, by decide +kernel, by decide, rfl, ⟨Or.inl rfl, Or.inl ⟨rfl, (pj_tb4 (k := 151) (by decide +kernel)), (pj_tk (k := 36) (by decide +kernel)), by decide⟩⟩⟩
theorem mo_6 : pj_okP 6 mt_6 := ⟨by decide, rfl, (pj_tb4 (k := 157) (by rfl)), (pj_tb1 (k := 10) (by decide +kernel)), by decide, by decide, by decide +kernel, by decide, rfl, ⟨Or.inr (Or.inl rfl), Or.inl ⟨rfl, (pj_tb4 (k := 155) (by decide +kernel)), (pj_tb4 (k := 156) (by decide +kernel)), by decide⟩⟩⟩
theorem mo_7 : pj_okP 7 mt_7 := ⟨by decide, rfl, (pj_tb4 (k := 166) (by rfl)), (pj_tb1 (k := 10) (by decide +kernel)), by decide, by decide, by decide +kernel, by decide, rfl, ⟨Or.inl rfl, Or.inl ⟨rfl, (pj_tb4 (k := 165) (by decide +kernel)), (pj_tk (k := 37) (by decide +kernel)), by decide⟩⟩⟩
theorem mo_8 : pj_okP 8 mt_8 := ⟨by decide, rfl, (pj_tb2 (k := 109) (by rfl)), (pj_tb1 (k := 12) (by decide +kernel)), by decide, by decide, by decide +kernel, by decide, rfl, ⟨Or.inl rfl, Or.inr (Or.inr ⟨rfl, (pj_tb2 (k := 108) (by decide +kernel)), by decide, rfl⟩)⟩⟩
theorem mo_9 : pj_okP 9 mt_9 := ⟨by decide, rfl, (pj_tb4 (k := 13) (by rfl)), (pj_tb1 (k := 12) (by decide +kernel)), by decide, by decide, by decide +kernel, by decide, rfl, ⟨Or.inl rfl, Or.inl ⟨rfl, (pj_tb4 (k := 11) (by decide +kernel)), (pj_tb4 (k := 12) (by decide +kernel)), by decide⟩⟩⟩
theorem mo_10 : pj_okP 10 mt_10 := ⟨by decide, rfl, (pj_tb5 (k := 100) (by rfl)), (pj_tb1 (k := 12) (by decide +kernel)), by decide, by decide, by decide +kernel, by decide, rfl, ⟨Or.inl rfl, Or.inl ⟨rfl, (pj_tb5 (k := 98) (by decide +kernel)), (pj_tb5 (k := 99) (by decide +kernel)), by decide⟩⟩⟩
theorem mo_11 : pj_okP 11 mt_11 := ⟨by decide, rfl, (pj_tb5 (k := 152) (by rfl)), (pj_tb1 (k := 12) (by decide +kernel)), by decide, by decide, by decide +kernel, by decide, rfl, ⟨Or.inr (Or.inr (Or.inr rfl)), Or.inl ⟨rfl, (pj_tb5 (k := 150) (by decide +kernel)), (pj_tb5 (k := 151) (by decide +kernel)), by decide⟩⟩⟩
theorem mo_12 : pj_okP 12 mt_12 := ⟨by decide, rfl, (pj_tb2 (k := 129) (by rfl)), (pj_tb1 (k := 13) (by decide +kernel)), by decide, by decide, by decide +kernel, by decide, rfl, ⟨Or.inl rfl, Or.inr (Or.inr ⟨rfl, (pj_tb2 (k := 128) (by decide +kernel)), by decide, rfl⟩)⟩⟩
theorem mo_13 : pj_okP 13 mt_13 := ⟨by decide, rfl, (pj_tb4 (k := 186) (by rfl)), (pj_tb1 (k := 13) (by decide +kernel)), by decide, by decide, by decide +kernel, by decide, rfl, ⟨Or.inl rfl, Or.inl ⟨rfl, (pj_tb4 (k := 184) (by decide +kernel)), (pj_tb4 (k := 185) (by decide +kernel)), by decide⟩⟩⟩
theorem mo_14 : pj_okP 14 mt_14 := ⟨by decide, rfl, (pj_tb4 (k := 193) (by rfl)), (pj_tb1 (k := 13) (by decide +kernel)), by decide, by decide, by decide +kernel, by decide, rfl, ⟨Or.inr (Or.inl rfl), Or.inl ⟨rfl, (pj_tb4 (k := 192) (by decide +kernel)), (pj_tk (k := 39) (by decide +kernel)), by decide⟩⟩⟩
theorem mo_15 : pj_okP 15 mt_15 := ⟨by decide, rfl, (pj_tb4 (k := 197) (by rfl)), (pj_tb1 (k := 13) (by decide +kernel)), by decide, by decide, by decide +kernel, by decide, rfl, ⟨Or.inr (Or.inr (Or.inr rfl)), Or.inl ⟨rfl, (pj_tb4 (k := 196) (by decide +kernel)), (pj_tk (k := 40) (by decide +kernel)), by decide⟩⟩⟩
theorem mo_16 : pj_okP 16 mt_16 := ⟨by decide, rfl, (pj_tb4 (k := 201) (by rfl)), (pj_tb1 (k := 13) (by decide +kernel)), by decide, by decide, by decide +kernel, by decide, rfl, ⟨Or.inr (Or.inl rfl), Or.inl ⟨rfl, (pj_tb4 (k := 199) (by decide +kernel)), (pj_tb4 (k := 200) (by decide +kernel)), by decide⟩⟩⟩
theorem mo_17 : pj_okP 17 mt_17 := ⟨by decide, rfl, (pj_tb4 (k := 205) (by rfl)), (pj_tb1 (k := 13) (by decide +kernel)), by decide, by decide, by decide +kernel, by decide, rfl, ⟨Or.inr (Or.inl rfl), Or.inl ⟨rfl, (pj_tb4 (k := 203) (by decide +kernel)), (pj_tb4 (k := 204) (by decide +kernel)), by decide⟩⟩⟩
theorem mo_18 : pj_okP 18 mt_18 := ⟨by decide, rfl, (pj_tb4 (k := 209) (by rfl)), (pj_tb1 (k := 13) (by decide +kernel)), by decide, by decide, by decide +kernel, by decide, rfl, ⟨Or.inr (Or.inl rfl), Or.inl ⟨rfl, (pj_tb4 (k := 208) (by decide +kernel)), (pj_tk (k := 41) (by decide +kernel)), by decide⟩⟩⟩
theorem mo_19 : pj_okP 19 mt_19 := ⟨by decide, rfl, (pj_tb2 (k := 147) (by rfl)), (pj_tb1 (k := 14) (by decide +kernel)), by decide, by decide, by decide +kernel, by decide, rfl, ⟨Or.inl rfl, Or.inr (Or.inr ⟨rfl, (pj_tb2 (k := 146) (by decide +kernel)), by decide, rfl⟩)⟩⟩
theorem mo_20 : pj_okP 20 mt_20 := ⟨by decide, rfl, (pj_tb4 (k := 230) (by rfl)), (pj_tb1 (k := 14) (by decide +kernel)), by decide, by decide, by decide +kernel, by decide, rfl, ⟨Or.inr (Or.inl rfl), Or.inl ⟨rfl, (pj_tb4 (k := 228) (by decide +kernel)), (pj_tb4 (k := 229) (by decide +kernel)), by decide⟩⟩⟩
theorem mo_21 : pj_okP 21 mt_21 := ⟨by decide, rfl, (pj_tb4 (k := 238) (by rfl)), (pj_tb1 (k := 14) (by decide +kernel)), by decide, by decide, by decide +kernel, by decide, rfl, ⟨Or.inr (Or.inr (Or.inr rfl)), Or.inl ⟨rfl, (pj_tb4 (k := 237) (by decide +kernel)), (pj_tk (k := 44) (by decide +kernel)), by decide⟩⟩⟩
theorem mo_22 : pj_okP 22 mt_22 := ⟨by decide, rfl, (pj_tb5 (k := 2) (by rfl)), (pj_tb1 (k := 14) (by decide +kernel)), by decide, by decide, by decide +kernel, by decide, rfl, ⟨Or.inr (Or.inr (Or.inr rfl)), Or.inl ⟨rfl, (pj_tb5 (k := 1) (by decide +kernel)), (pj_tk (k := 45) (by decide +kernel)), by decide⟩⟩⟩
theorem mo_23 : pj_okP 23 mt_23 := ⟨by decide, rfl, (pj_tb5 (k := 6) (by rfl)), (pj_tb1 (k := 14) (by decide +kernel)), by decide, by decide, by decide +kernel, by decide, rfl, ⟨Or.inr (Or.inr (Or.inr rfl)), Or.inl ⟨rfl, (pj_tb5 (k := 5) (by decide +kernel)), (pj_tk (k := 46) (by decide +kernel)), by decide⟩⟩⟩
theorem mo_24 : pj_okP 24 mt_24 := ⟨by decide, rfl, (pj_tb5 (k := 10) (by rfl)), (pj_tb1 (k := 14) (by decide +kernel)), by decide, by decide, by decide +kernel, by decide, rfl, ⟨Or.inr (Or.inl rfl), Or.inl ⟨rfl, (pj_tb5 (k := 9) (by decide +kernel)), (pj_tk (k := 47) (by decide +kernel)), by decide⟩⟩⟩
theorem mo_25 : pj_okP 25 mt_25 := ⟨by decide, rfl, (pj_tb5 (k := 16) (by rfl)), (pj_tb1 (k := 14) (by decide +kernel)), by decide, by decide, by decide +kernel, by decide, rfl, ⟨Or.inr (Or.inr (Or.inr rfl)), Or.inl ⟨rfl, (pj_tb5 (k := 15) (by decide +kernel)), (pj_tk (k := 48) (by decide +kernel)), by decide⟩⟩⟩
theorem mo_26 : pj_okP 26 mt_26 := ⟨by decide, rfl, (pj_tb5 (k := 20) (by rfl)), (pj_tb1 (k := 14) (by decide +kernel)), by decide, by decide, by decide +kernel, by decide, rfl, ⟨Or.inr (Or.inl rfl), Or.inl ⟨rfl, (pj_tb5 (k := 19) (by decide +kernel)), (pj_tk (k := 49) (by decide +kernel)), by decide⟩⟩⟩
theorem mo_27 : pj_okP 27 mt_27 := ⟨by decide, rfl, (pj_tb5 (k := 29) (by rfl)), (pj_tb1 (k := 14) (by decide +kernel)), by decide, by decide, by decide +kernel, by decide, rfl, ⟨Or.inl rfl, Or.inl ⟨rfl, (pj_tb5 (k := 28) (by decide +kernel)), (pj_tk (k := 50) (by decide +kernel)), by decide⟩⟩⟩
theorem mo_28 : pj_okP 28 mt_28 := ⟨by decide, rfl, (pj_tb2 (k := 223) (by rfl)), (pj_tb1 (k := 16) (by decide +kernel)), by decide, by decide, by decide +kernel, by decide, rfl, ⟨Or.inl rfl, Or.inr (Or.inr ⟨rfl, (pj_tb2 (k := 222) (by decide +kernel)), by decide, rfl⟩)⟩⟩
theorem mo_29 : pj_okP 29 mt_29 := ⟨by decide, rfl, (pj_tb5 (k := 168) (by rfl)), (pj_tb1 (k := 16) (by decide +kernel)), by decide, by decide, by decide +kernel, by decide, rfl, ⟨Or.inl rfl, Or.inl ⟨rfl, (pj_tb5 (k := 166) (by decide +kernel)), (pj_tb5 (k := 167) (by decide +kernel)), by decide⟩⟩⟩
theorem mo_30 : pj_okP 30 mt_30 := ⟨by decide, rfl, (pj_tb5 (k := 172) (by rfl)), (pj_tb1 (k := 16) (by decide +kernel)), by decide, by decide, by decide +kernel, by decide, rfl, ⟨Or.inl rfl, Or.inl ⟨rfl, (pj_tb5 (k := 171) (by decide +kernel)), (pj_tk (k := 60) (by decide +kernel)), by decide⟩⟩⟩
theorem mo_31 : pj_okP 31 mt_31 := ⟨by decide, rfl, (pj_tb5 (k := 184) (by rfl)), (pj_tb1 (k := 16) (by decide +kernel)), by decide, by decide, by decide +kernel, by decide, rfl, ⟨Or.inr (Or.inr (Or.inr rfl)), Or.inl ⟨rfl, (pj_tb5 (k := 182) (by decide +kernel)), (pj_tb5 (k := 183) (by decide +kernel)), by decide⟩⟩⟩
theorem mo_32 : pj_okP 32 mt_32 := ⟨by decide, rfl, (pj_tb5 (k := 187) (by rfl)), (pj_tb1 (k := 16) (by decide +kernel)), by decide, by decide, by decide +kernel, by decide, rfl, ⟨Or.inr (Or.inr (Or.inr rfl)), Or.inr (Or.inl ⟨rfl, (pj_tb5 (k := 186) (by decide +kernel)), by decide⟩)⟩⟩
theorem mo_33 : pj_okP 33 mt_33 := ⟨by decide, rfl, (pj_tb5 (k := 191) (by rfl)), (pj_tb1 (k := 16) (by decide +kernel)), by decide, by decide, by decide +kernel, by decide, rfl, ⟨Or.inr (Or.inr (Or.inr rfl)), Or.inr (Or.inl ⟨rfl, (pj_tb5 (k := 190) (by decide +kernel)), by decide⟩)⟩⟩
theorem mo_34 : pj_okP 34 mt_34 := ⟨by decide, rfl, (pj_tb5 (k := 195) (by rfl)), (pj_tb1 (k := 16) (by decide +kernel)), by decide, by decide, by decide +kernel, by decide, rfl, ⟨Or.inr (Or.inr (Or.inr rfl)), Or.inl ⟨rfl, (pj_tb5 (k := 194) (by decide +kernel)), (pj_tk (k := 61) (by decide +kernel)), by decide⟩⟩⟩
theorem mo_35 : pj_okP 35 mt_35 := ⟨by decide, rfl, (pj_tb1 (k := 147) (by rfl)), (pj_tb1 (k := 4) (by decide +kernel)), by decide, by decide, by decide +kernel, by decide, rfl, ⟨Or.inl rfl, Or.inr (Or.inr ⟨rfl, (pj_tb1 (k := 146) (by decide +kernel)), by decide, rfl⟩)⟩⟩
theorem mo_36 : pj_okP 36 mt_36 := ⟨by decide, rfl, (pj_tb3 (k := 89) (by rfl)), (pj_tb1 (k := 4) (by decide +kernel)), by decide, by decide, by decide +kernel, by decide, rfl, ⟨Or.inl rfl, Or.inl ⟨rfl, (pj_tb3 (k := 87) (by decide +kernel)), (pj_tb3 (k := 88) (by decide +kernel)), by decide⟩⟩⟩
theorem mo_37 : pj_okP 37 mt_37 := ⟨by decide, rfl, (pj_tb3 (k := 119) (by rfl)), (pj_tb1 (k := 4) (by decide +kernel)), by decide, by decide, by decide +kernel, by decide, rfl, ⟨Or.inr (Or.inr (Or.inr rfl)), Or.inl ⟨rfl, (pj_tb3 (k := 117) (by decide +kernel)), (pj_tb3 (k := 118) (by decide +kernel)), by decide⟩⟩⟩
theorem mo_38 : pj_okP 38 mt_38 := ⟨by decide, rfl, (pj_tb3 (k := 123) (by rfl)), (pj_tb1 (k := 4) (by decide +kernel)), by decide, by decide, by decide +kernel, by decide, rfl, ⟨Or.inl rfl, Or.inl ⟨rfl, (pj_tb3 (k := 122) (by decide +kernel)), (pj_tk (k := 3) (by decide +kernel)), by decide⟩⟩⟩
theorem mo_39 : pj_okP 39 mt_39 := ⟨by decide, rfl, (pj_tb3 (k := 127) (by rfl)), (pj_tb1 (k := 4) (by decide +kernel)), by decide, by decide, by decide +kernel, by decide, rfl, ⟨Or.inl rfl, Or.inl ⟨rfl, (pj_tb3 (k := 126) (by decide +kernel)), (pj_tk (k := 4) (by decide +kernel)), by decide⟩⟩⟩
theorem mo_40 : pj_okP 40 mt_40 := ⟨by decide, rfl, (pj_tb3 (k := 131) (by rfl)), (pj_tb1 (k := 4) (by decide +kernel)), by decide, by decide, by decide +kernel, by decide, rfl, ⟨Or.inl rfl, Or.inl ⟨rfl, (pj_tb3 (k := 130) (by decide +kernel)), (pj_tk (k := 5) (by decide +kernel)), by decide⟩⟩⟩
theorem mo_41 : pj_okP 41 mt_41 := ⟨by decide, rfl, (pj_tb3 (k := 136) (by rfl)), (pj_tb1 (k := 4) (by decide +kernel)), by decide, by decide, by decide +kernel, by decide, rfl, ⟨Or.inr (Or.inl rfl), Or.inl ⟨rfl, (pj_tb3 (k := 135) (by decide +kernel)), (pj_tk (k := 6) (by decide +kernel)), by decide⟩⟩⟩
theorem mo_42 : pj_okP 42 mt_42 := ⟨by decide, rfl, (pj_tb3 (k := 140) (by rfl)), (pj_tb1 (k := 4) (by decide +kernel)), by decide, by decide, by decide +kernel, by decide, rfl, ⟨Or.inr (Or.inl rfl), Or.inl ⟨rfl, (pj_tb3 (k := 139) (by decide +kernel)), (pj_tk (k := 7) (by decide +kernel)), by decide⟩⟩⟩
theorem mo_43 : pj_okP 43 mt_43 := ⟨by decide, rfl, (pj_tb3 (k := 144) (by rfl)), (pj_tb1 (k := 4) (by decide +kernel)), by decide, by decide, by decide +kernel, by decide, rfl, ⟨Or.inl rfl, Or.inl ⟨rfl, (pj_tb3 (k := 143) (by decide +kernel)), (pj_tk (k := 8) (by decide +kernel)), by decide⟩⟩⟩
theorem mo_44 : pj_okP 44 mt_44 := ⟨by decide, rfl, (pj_tb3 (k := 156) (by rfl)), (pj_tb1 (k := 4) (by decide +kernel)), by decide, by decide, by decide +kernel, by decide, rfl, ⟨Or.inl rfl, Or.inl ⟨rfl, (pj_tb3 (k := 155) (by decide +kernel)), (pj_tk (k := 9) (by decide +kernel)), by decide⟩⟩⟩
theorem mo_45 : pj_okP 45 mt_45 := ⟨by decide, rfl, (pj_tb3 (k := 160) (by rfl)), (pj_tb1 (k := 4) (by decide +kernel)), by decide, by decide, by decide +kernel, by decide, rfl, ⟨Or.inr (Or.inl rfl), Or.inl ⟨rfl, (pj_tb3 (k := 159) (by decide +kernel)), (pj_tk (k := 10) (by decide +kernel)), by decide⟩⟩⟩
theorem mo_46 : pj_okP 46 mt_46 := ⟨by decide, rfl, (pj_tb3 (k := 164) (by rfl)), (pj_tb1 (k := 4) (by decide +kernel)), by decide, by decide, by decide +kernel, by decide, rfl, ⟨Or.inl rfl, Or.inl ⟨rfl, (pj_tb3 (k := 163) (by decide +kernel)), (pj_tk (k := 11) (by decide +kernel)), by decide⟩⟩⟩
theorem mo_47 : pj_okP 47 mt_47 := ⟨by decide, rfl, (pj_tb3 (k := 168) (by rfl)), (pj_tb1 (k := 4) (by decide +kernel)), by decide, by decide, by decide +kernel, by decide, rfl, ⟨Or.inl rfl, Or.inl ⟨rfl, (pj_tb3 (k := 167) (by decide +kernel)), (pj_tk (k := 12) (by decide +kernel)), by decide⟩⟩⟩
theorem mo_48 : pj_okP 48 mt_48 := ⟨by decide, rfl, (pj_tb3 (k := 173) (by rfl)), (pj_tb1 (k := 4) (by decide +kernel)), by decide, by decide, by decide +kernel, by decide, rfl, ⟨Or.inl rfl, Or.inl ⟨rfl, (pj_tb3 (k := 172) (by decide +kernel)), (pj_tk (k := 13) (by decide +kernel)), by decide⟩⟩⟩
theorem mo_49 : pj_okP 49 mt_49 := ⟨by decide, rfl, (pj_tb3 (k := 181) (by rfl)), (pj_tb1 (k := 4) (by decide +kernel)), by decide, by decide, by decide +kernel, by decide, rfl, ⟨Or.inl rfl, Or.inl ⟨rfl, (pj_tb3 (k := 180) (by decide +kernel)), (pj_tk (k := 14) (by decide +kernel)), by decide⟩⟩⟩
theorem mo_50 : pj_okP 50 mt_50 := ⟨by decide, rfl, (pj_tb3 (k := 185) (by rfl)), (pj_tb1 (k := 4) (by decide +kernel)), by decide, by decide, by decide +kernel, by decide, rfl, ⟨Or.inl rfl, Or.inl ⟨rfl, (pj_tb3 (k := 184) (by decide +kernel)), (pj_tk (k := 15) (by decide +kernel)), by decide⟩⟩⟩
theorem mo_51 : pj_okP 51 mt_51 := ⟨by decide, rfl, (pj_tb3 (k := 189) (by rfl)), (pj_tb1 (k := 4) (by decide +kernel)), by decide, by decide, by decide +kernel, by decide, rfl, ⟨Or.inl rfl, Or.inl ⟨rfl, (pj_tb3 (k := 188) (by decide +kernel)), (pj_tk (k := 16) (by decide +kernel)), by decide⟩⟩⟩
theorem mo_52 : pj_okP 52 mt_52 := ⟨by decide, rfl, (pj_tb3 (k := 193) (by rfl)), (pj_tb1 (k := 4) (by decide +kernel)), by decide, by decide, by decide +kernel, by decide, rfl, ⟨Or.inr (Or.inr (Or.inr rfl)), Or.inl ⟨rfl, (pj_tb3 (k := 192) (by decide +kernel)), (pj_tk (k := 17) (by decide +kernel)), by decide⟩⟩⟩
theorem mo_53 : pj_okP 53 mt_53 := ⟨by decide, rfl, (pj_tb3 (k := 197) (by rfl)), (pj_tb1 (k := 4) (by decide +kernel)), by decide, by decide, by decide +kernel, by decide, rfl, ⟨Or.inl rfl, Or.inl ⟨rfl, (pj_tb3 (k := 196) (by decide +kernel)), (pj_tk (k := 18) (by decide +kernel)), by decide⟩⟩⟩
theorem mo_54 : pj_okP 54 mt_54 := ⟨by decide, rfl, (pj_tb3 (k := 205) (by rfl)), (pj_tb1 (k := 4) (by decide +kernel)), by decide, by decide, by decide +kernel, by decide, rfl, ⟨Or.inl rfl, Or.inl ⟨rfl, (pj_tb3 (k := 204) (by decide +kernel)), (pj_tk (k := 19) (by decide +kernel)), by decide⟩⟩⟩
theorem mo_55 : pj_okP 55 mt_55 := ⟨by decide, rfl, (pj_tb3 (k := 209) (by rfl)), (pj_tb1 (k := 4) (by decide +kernel)), by decide, by decide, by decide +kernel, by decide, rfl, ⟨Or.inl rfl, Or.inl ⟨rfl, (pj_tb3 (k := 208) (by decide +kernel)), (pj_tk (k := 20) (by decide +kernel)), by decide⟩⟩⟩
theorem mo_56 : pj_okP 56 mt_56 := ⟨by decide, rfl, (pj_tb3 (k := 213) (by rfl)), (pj_tb1 (k := 4) (by decide +kernel)), by decide, by decide, by decide +kernel, by decide, rfl, ⟨Or.inl rfl, Or.inl ⟨rfl, (pj_tb3 (k := 212) (by decide +kernel)), (pj_tk (k := 21) (by decide +kernel)), by decide⟩⟩⟩
theorem mo_57 : pj_okP 57 mt_57 := ⟨by decide, rfl, (pj_tb3 (k := 217) (by rfl)), (pj_tb1 (k := 4) (by decide +kernel)), by decide, by decide, by decide +kernel, by decide, rfl, ⟨Or.inl rfl, Or.inl ⟨rfl, (pj_tb3 (k := 216) (by decide +kernel)), (pj_tk (k := 22) (by decide +kernel)), by decide⟩⟩⟩
theorem mo_58 : pj_okP 58 mt_58 := ⟨by decide, rfl, (pj_tb3 (k := 221) (by rfl)), (pj_tb1 (k := 4) (by decide +kernel)), by decide, by decide, by decide +kernel, by decide, rfl, ⟨Or.inl rfl, Or.inl ⟨rfl, (pj_tb3 (k := 220) (by decide +kernel)), (pj_tk (k := 23) (by decide +kernel)), by decide⟩⟩⟩
theorem mo_59 : pj_okP 59 mt_59 := ⟨by decide, rfl, (pj_tb3 (k := 225) (by rfl)), (pj_tb1 (k := 4) (by decide +kernel)), by decide, by decide, by decide +kernel, by decide, rfl, ⟨Or.inl rfl, Or.inl ⟨rfl, (pj_tb3 (k := 224) (by decide +kernel)), (pj_tk (k := 24) (by decide +kernel)), by decide⟩⟩⟩
theorem mo_60 : pj_okP 60 mt_60 := ⟨by decide, rfl, (pj_tb3 (k := 229) (by rfl)), (pj_tb1 (k := 4) (by decide +kernel)), by decide, by decide, by decide +kernel, by decide, rfl, ⟨Or.inl rfl, Or.inl ⟨rfl, (pj_tb3 (k := 228) (by decide +kernel)), (pj_tk (k := 25) (by decide +kernel)), by decide⟩⟩⟩
theorem mo_61 : pj_okP 61 mt_61 := ⟨by decide, rfl, (pj_tb3 (k := 233) (by rfl)), (pj_tb1 (k := 4) (by decide +kernel)), by decide, by decide, by decide +kernel, by decide, rfl, ⟨Or.inr (Or.inr (Or.inr rfl)), Or.inl ⟨rfl, (pj_tb3 (k := 232) (by decide +kernel)), (pj_tk (k := 26) (by decide +kernel)), by decide⟩⟩⟩
theorem mo_62 : pj_okP 62 mt_62 := ⟨by decide, rfl, (pj_tb3 (k := 237) (by rfl)), (pj_tb1 (k := 4) (by decide +kernel)), by decide, by decide, by decide +kernel, by decide, rfl, ⟨Or.inr (Or.inr (Or.inr rfl)), Or.inl ⟨rfl, (pj_tb3 (k := 236) (by decide +kernel)), (pj_tk (k := 27) (by decide +kernel)), by decide⟩⟩⟩
theorem mo_63 : pj_okP 63 mt_63 := ⟨by decide, rfl, (pj_tb1 (k := 153) (by rfl)), (pj_tb1 (k := 5) (by decide +kernel)), by decide, by decide, by decide +kernel, by decide, rfl, ⟨Or.inl rfl, Or.inr (Or.inr ⟨rfl, (pj_tb1 (k := 152) (by decide +kernel)), by decide, rfl⟩)⟩⟩
theorem mo_64 : pj_okP 64 mt_64 := ⟨by decide, rfl, (pj_tb3 (k := 97) (by rfl)), (pj_tb1 (k := 5) (by decide +kernel)), by decide, by decide, by decide +kernel, by decide, rfl, ⟨Or.inl rfl, Or.inl ⟨rfl, (pj_tb3 (k := 95) (by decide +kernel)), (pj_tb3 (k := 96) (by decide +kernel)), by decide⟩⟩⟩
theorem mo_65 : pj_okP 65 mt_65 := ⟨by decide, rfl, (pj_tb3 (k := 101) (by rfl)), (pj_tb1 (k := 5) (by decide +kernel)), by decide, by decide, by decide +kernel, by decide, rfl, ⟨Or.inl rfl, Or.inl ⟨rfl, (pj_tb3 (k := 99) (by decide +kernel)), (pj_tb3 (k := 100) (by decide +kernel)), by decide⟩⟩⟩
theorem mo_66 : pj_okP 66 mt_66 := ⟨by decide, rfl, (pj_tb3 (k := 108) (by rfl)), (pj_tb1 (k := 5) (by decide +kernel)), by decide, by decide, by decide +kernel, by decide, rfl, ⟨Or.inr (Or.inr (Or.inr rfl)), Or.inr (Or.inl ⟨rfl, (pj_tb3 (k := 107) (by decide +kernel)), by decide⟩)⟩⟩
theorem mo_67 : pj_okP 67 mt_67 := ⟨by decide, rfl, (pj_tb3 (k := 111) (by rfl)), (pj_tb1 (k := 5) (by decide +kernel)), by decide, by decide, by decide +kernel, by decide, rfl, ⟨Or.inr (Or.inl rfl), Or.inr (Or.inl ⟨rfl, (pj_tb3 (k := 110) (by decide +kernel)), by decide⟩)⟩⟩
theorem mo_68 : pj_okP 68 mt_68 := ⟨by decide, rfl, (pj_tb3 (k := 115) (by rfl)), (pj_tb1 (k := 5) (by decide +kernel)), by decide, by decide, by decide +kernel, by decide, rfl, ⟨Or.inr (Or.inl rfl), Or.inl ⟨rfl, (pj_tb3 (k := 114) (by decide +kernel)), (pj_tk (k := 2) (by decide +kernel)), by decide⟩⟩⟩
theorem mo_69 : pj_okP 69 mt_69 := ⟨by decide, rfl, (pj_tb3 (k := 201) (by rfl)), (pj_tb1 (k := 5) (by decide +kernel)), by decide, by decide, by decide +kernel, by decide, rfl, ⟨Or.inr (Or.inr (Or.inr rfl)), Or.inl ⟨rfl, (pj_tb3 (k := 199) (by decide +kernel)), (pj_tb3 (k := 200) (by decide +kernel)), by decide⟩⟩⟩
theorem mo_70 : pj_okP 70 mt_70 := ⟨by decide, rfl, (pj_tb2 (k := 30) (by rfl)), (pj_tb1 (k := 11) (by decide +kernel)), by decide, by decide, by decide +kernel, by decide, rfl, ⟨Or.inl rfl, Or.inr (Or.inr ⟨rfl, (pj_tb2 (k := 29) (by decide +kernel)), by decide, rfl⟩)⟩⟩
theorem mo_71 : pj_okP 71 mt_71 := ⟨by decide, rfl, (pj_tb3 (k := 0) (by rfl)), (pj_tb1 (k := 11) (by decide +kernel)), by decide, by decide, by decide +kernel, by decide, rfl, ⟨Or.inl rfl, Or.inl ⟨rfl, (pj_tb2 (k := 238) (by decide +kernel)), (pj_tb2 (k := 239) (by decide +kernel)), by decide⟩⟩⟩
theorem mo_72 : pj_okP 72 mt_72 := ⟨by decide, rfl, (pj_tb4 (k := 29) (by rfl)), (pj_tb1 (k := 11) (by decide +kernel)), by decide, by decide, by decide +kernel, by decide, rfl, ⟨Or.inr (Or.inl rfl), Or.inl ⟨rfl, (pj_tb4 (k := 27) (by decide +kernel)), (pj_tb4 (k := 28) (by decide +kernel)), by decide⟩⟩⟩
theorem mo_73 : pj_okP 73 mt_73 := ⟨by decide, rfl, (pj_tb4 (k := 33) (by rfl)), (pj_tb1 (k := 11) (by decide +kernel)), by decide, by decide, by decide +kernel, by decide, rfl, ⟨Or.inr (Or.inl rfl), Or.inl ⟨rfl, (pj_tb4 (k := 31) (by decide +kernel)), (pj_tb4 (k := 32) (by decide +kernel)), by decide⟩⟩⟩
theorem mo_74 : pj_okP 74 mt_74 := ⟨by decide, rfl, (pj_tb4 (k := 43) (by rfl)), (pj_tb1 (k := 11) (by decide +kernel)), by decide, by decide, by decide +kernel, by decide, rfl, ⟨Or.inr (Or.inl rfl), Or.inl ⟨rfl, (pj_tb4 (k := 41) (by decide +kernel)), (pj_tb4 (k := 42) (by decide +kernel)), by decide⟩⟩⟩
theorem mo_75 : pj_okP 75 mt_75 := ⟨by decide, rfl, (pj_tb4 (k := 48) (by rfl)), (pj_tb1 (k := 11) (by decide +kernel)), by decide, by decide, by decide +kernel, by decide, rfl, ⟨Or.inr (Or.inl rfl), Or.inl ⟨rfl, (pj_tb4 (k := 46) (by decide +kernel)), (pj_tb4 (k := 47) (by decide +kernel)), by decide⟩⟩⟩
theorem mo_76 : pj_okP 76 mt_76 := ⟨by decide, rfl, (pj_tb4 (k := 78) (by rfl)), (pj_tb1 (k := 11) (by decide +kernel)), by decide, by decide, by decide +kernel, by decide, rfl, ⟨Or.inr (Or.inl rfl), Or.inl ⟨rfl, (pj_tb4 (k := 76) (by decide +kernel)), (pj_tb4 (k := 77) (by decide +kernel)), by decide⟩⟩⟩
theorem mo_77 : pj_okP 77 mt_77 := ⟨by decide, rfl, (pj_tb4 (k := 122) (by rfl)), (pj_tb1 (k := 11) (by decide +kernel)), by decide, by decide, by decide +kernel, by decide, rfl, ⟨Or.inl rfl, Or.inl ⟨rfl, (pj_tb4 (k := 120) (by decide +kernel)), (pj_tb4 (k := 121) (by decide +kernel)), by decide⟩⟩⟩
theorem mo_78 : pj_okP 78 mt_78 := ⟨by decide, rfl, (pj_tb4 (k := 162) (by rfl)), (pj_tb1 (k := 11) (by decide +kernel)), by decide, by decide, by decide +kernel, by decide, rfl, ⟨Or.inl rfl, Or.inl ⟨rfl, (pj_tb4 (k := 160) (by decide +kernel)), (pj_tb4 (k := 161) (by decide +kernel)), by decide⟩⟩⟩
theorem mo_79 : pj_okP 79 mt_79 := ⟨by decide, rfl, (pj_tb5 (k := 24) (by rfl)), (pj_tb1 (k := 11) (by decide +kernel)), by decide, by decide, by decide +kernel, by decide, rfl, ⟨Or.inl rfl, Or.inl ⟨rfl, (pj_tb5 (k := 22) (by decide +kernel)), (pj_tb5 (k := 23) (by decide +kernel)), by decide⟩⟩⟩
theorem mo_80 : pj_okP 80 mt_80 := ⟨by decide, rfl, (pj_tb5 (k := 125) (by rfl)), (pj_tb1 (k := 11) (by decide +kernel)), by decide, by decide, by decide +kernel, by decide, rfl, ⟨Or.inl rfl, Or.inl ⟨rfl, (pj_tb5 (k := 123) (by decide +kernel)), (pj_tb5 (k := 124) (by decide +kernel)), by decide⟩⟩⟩
theorem mo_81 : pj_okP 81 mt_81 := ⟨by decide, rfl, (pj_tb1 (k := 33) (by rfl)), (pj_tb1 (k := 2) (by decide +kernel)), by decide, by decide, by decide +kernel, by decide, rfl, ⟨Or.inl rfl, Or.inr (Or.inr ⟨rfl, (pj_tb1 (k := 32) (by decide +kernel)), by decide, rfl⟩)⟩⟩
theorem mo_82 : pj_okP 82 mt_82 := ⟨by decide, rfl, (pj_tb3 (k := 61) (by rfl)), (pj_tb1 (k := 2) (by decide +kernel)), by decide, by decide, by decide +kernel, by decide, rfl, ⟨Or.inr (Or.inr (Or.inr rfl)), Or.inl ⟨rfl, (pj_tb3 (k := 59) (by decide +kernel)), (pj_tb3 (k := 60) (by decide +kernel)), by decide⟩⟩⟩
theorem mo_83 : pj_okP 83 mt_83 := ⟨by decide, rfl, (pj_tb3 (k := 69) (by rfl)), (pj_tb1 (k := 2) (by decide +kernel)), by decide, by decide, by decide +kernel, by decide, rfl, ⟨Or.inl rfl, Or.inl ⟨rfl, (pj_tb3 (k := 67) (by decide +kernel)), (pj_tb3 (k := 68) (by decide +kernel)), by decide⟩⟩⟩
theorem mo_84 : pj_okP 84 mt_84 := ⟨by decide, rfl, (pj_tb3 (k := 77) (by rfl)), (pj_tb1 (k := 2) (by decide +kernel)), by decide, by decide, by decide +kernel, by decide, rfl, ⟨Or.inr (Or.inr (Or.inr rfl)), Or.inl ⟨rfl, (pj_tb3 (k := 75) (by decide +kernel)), (pj_tb3 (k := 76) (by decide +kernel)), by decide⟩⟩⟩
theorem mo_85 : pj_okP 85 mt_85 := ⟨by decide, rfl, (pj_tb3 (k := 105) (by rfl)), (pj_tb1 (k := 2) (by decide +kernel)), by decide, by decide, by decide +kernel, by decide, rfl, ⟨Or.inr (Or.inl rfl), Or.inl ⟨rfl, (pj_tb3 (k := 103) (by decide +kernel)), (pj_tb3 (k := 104) (by decide +kernel)), by decide⟩⟩⟩
theorem mo_86 : pj_okP 86 mt_86 := ⟨by decide, rfl, (pj_tb4 (k := 1) (by rfl)), (pj_tb1 (k := 2) (by decide +kernel)), by decide, by decide, by decide +kernel, by decide, rfl, ⟨Or.inl rfl, Or.inl ⟨rfl, (pj_tb3 (k := 239) (by decide +kernel)), (pj_tb4 (k := 0) (by decide +kernel)), by decide⟩⟩⟩
theorem mo_87 : pj_okP 87 mt_87 := ⟨by decide, rfl, (pj_tb2 (k := 172) (by rfl)), (pj_tb1 (k := 15) (by decide +kernel)), by decide, by decide, by decide +kernel, by decide, rfl, ⟨Or.inl rfl, Or.inr (Or.inr ⟨rfl, (pj_tb2 (k := 171) (by decide +kernel)), by decide, rfl⟩)⟩⟩
theorem mo_88 : pj_okP 88 mt_88 := ⟨by decide, rfl, (pj_tb4 (k := 17) (by rfl)), (pj_tb1 (k := 15) (by decide +kernel)), by decide, by decide, by decide +kernel, by decide, rfl, ⟨Or.inl rfl, Or.inl ⟨rfl, (pj_tb4 (k := 15) (by decide +kernel)), (pj_tb4 (k := 16) (by decide +kernel)), by decide⟩⟩⟩
theorem mo_89 : pj_okP 89 mt_89 := ⟨by decide, rfl, (pj_tb5 (k := 46) (by rfl)), (pj_tb1 (k := 15) (by decide +kernel)), by decide, by decide, by decide +kernel, by decide, rfl, ⟨Or.inr (Or.inr (Or.inr rfl)), Or.inl ⟨rfl, (pj_tb5 (k := 44) (by decide +kernel)), (pj_tb5 (k := 45) (by decide +kernel)), by decide⟩⟩⟩
theorem mo_90 : pj_okP 90 mt_90 := ⟨by decide, rfl, (pj_tb5 (k := 55) (by rfl)), (pj_tb1 (k := 15) (by decide +kernel)), by decide, by decide, by decide +kernel, by decide, rfl, ⟨Or.inr (Or.inl rfl), Or.inl ⟨rfl, (pj_tb5 (k := 53) (by decide +kernel)), (pj_tb5 (k := 54) (by decide +kernel)), by decide⟩⟩⟩
theorem mo_91 : pj_okP 91 mt_91 := ⟨by decide, rfl, (pj_tb5 (k := 60) (by rfl)), (pj_tb1 (k := 15) (by decide +kernel)), by decide, by decide, by decide +kernel, by decide, rfl, ⟨Or.inl rfl, Or.inl ⟨rfl, (pj_tb5 (k := 58) (by decide +kernel)), (pj_tb5 (k := 59) (by decide +kernel)), by decide⟩⟩⟩
theorem mo_92 : pj_okP 92 mt_92 := ⟨by decide, rfl, (pj_tb5 (k := 64) (by rfl)), (pj_tb1 (k := 15) (by decide +kernel)), by decide, by decide, by decide +kernel, by decide, rfl, ⟨Or.inr (Or.inl rfl), Or.inl ⟨rfl, (pj_tb5 (k := 63) (by decide +kernel)), (pj_tk (k := 51) (by decide +kernel)), by decide⟩⟩⟩
theorem mo_93 : pj_okP 93 mt_93 := ⟨by decide, rfl, (pj_tb5 (k := 71) (by rfl)), (pj_tb1 (k := 15) (by decide +kernel)), by decide, by decide, by decide +kernel, by decide, rfl, ⟨Or.inr (Or.inl rfl), Or.inl ⟨rfl, (pj_tb5 (k := 70) (by decide +kernel)), (pj_tk (k := 52) (by decide +kernel)), by decide⟩⟩⟩
theorem mo_94 : pj_okP 94 mt_94 := ⟨by decide, rfl, (pj_tb5 (k := 76) (by rfl)), (pj_tb1 (k := 15) (by decide +kernel)), by decide, by decide, by decide +kernel, by decide, rfl, ⟨Or.inr (Or.inr (Or.inr rfl)), Or.inl ⟨rfl, (pj_tb5 (k := 75) (by decide +kernel)), (pj_tk (k := 53) (by decide +kernel)), by decide⟩⟩⟩
theorem mo_95 : pj_okP 95 mt_95 := ⟨by decide, rfl, (pj_tb5 (k := 80) (by rfl)), (pj_tb1 (k := 15) (by decide +kernel)), by decide, by decide, by decide +kernel, by decide, rfl, ⟨Or.inr (Or.inl rfl), Or.inl ⟨rfl, (pj_tb5 (k := 79) (by decide +kernel)), (pj_tk (k := 54) (by decide +kernel)), by decide⟩⟩⟩
theorem mo_96 : pj_okP 96 mt_96 := ⟨by decide, rfl, (pj_tb5 (k := 88) (by rfl)), (pj_tb1 (k := 15) (by decide +kernel)), by decide, by decide, by decide +kernel, by decide, rfl, ⟨Or.inl rfl, Or.inl ⟨rfl, (pj_tb5 (k := 86) (by decide +kernel)), (pj_tb5 (k := 87) (by decide +kernel)), by decide⟩⟩⟩
theorem mo_97 : pj_okP 97 mt_97 := ⟨by decide, rfl, (pj_tb5 (k := 92) (by rfl)), (pj_tb1 (k := 15) (by decide +kernel)), by decide, by decide, by decide +kernel, by decide, rfl, ⟨Or.inr (Or.inl rfl), Or.inl ⟨rfl, (pj_tb5 (k := 91) (by decide +kernel)), (pj_tk (k := 55) (by decide +kernel)), by decide⟩⟩⟩
theorem mo_98 : pj_okP 98 mt_98 := ⟨by decide, rfl, (pj_tb1 (k := 51) (by rfl)), (pj_tb1 (k := 3) (by decide +kernel)), by decide, by decide, by decide +kernel, by decide, rfl, ⟨Or.inl rfl, Or.inr (Or.inr ⟨rfl, (pj_tb1 (k := 50) (by decide +kernel)), by decide, rfl⟩)⟩⟩
theorem mo_99 : pj_okP 99 mt_99 := ⟨by decide, rfl, (pj_tb3 (k := 4) (by rfl)), (pj_tb1 (k := 3) (by decide +kernel)), by decide, by decide, by decide +kernel, by decide, rfl, ⟨Or.inr (Or.inl rfl), Or.inl ⟨rfl, (pj_tb3 (k := 2) (by decide +kernel)), (pj_tb3 (k := 3) (by decide +kernel)), by decide⟩⟩⟩
theorem mo_100 : pj_okP 100 mt_100 := ⟨by decide, rfl, (pj_tb3 (k := 93) (by rfl)), (pj_tb1 (k := 3) (by decide +kernel)), by decide, by decide, by decide +kernel, by decide, rfl, ⟨Or.inl rfl, Or.inl ⟨rfl, (pj_tb3 (k := 91) (by decide +kernel)), (pj_tb3 (k := 92) (by decide +kernel)), by decide⟩⟩⟩
theorem mo_101 : pj_okP 101 mt_101 := ⟨by decide, rfl, (pj_tb3 (k := 148) (by rfl)), (pj_tb1 (k := 3) (by decide +kernel)), by decide, by decide, by decide +kernel, by decide, rfl, ⟨Or.inr (Or.inl rfl), Or.inl ⟨rfl, (pj_tb3 (k := 146) (by decide +kernel)), (pj_tb3 (k := 147) (by decide +kernel)), by decide⟩⟩⟩
theorem mo_102 : pj_okP 102 mt_102 := ⟨by decide, rfl, (pj_tb3 (k := 152) (by rfl)), (pj_tb1 (k := 3) (by decide +kernel)), by decide, by decide, by decide +kernel, by decide, rfl, ⟨Or.inr (Or.inl rfl), Or.inl ⟨rfl, (pj_tb3 (k := 150) (by decide +kernel)), (pj_tb3 (k := 151) (by decide +kernel)), by decide⟩⟩⟩
theorem mo_103 : pj_okP 103 mt_103 := ⟨by decide, rfl, (pj_tb3 (k := 177) (by rfl)), (pj_tb1 (k := 3) (by decide +kernel)), by decide, by decide, by decide +kernel, by decide, rfl, ⟨Or.inr (Or.inr (Or.inr rfl)), Or.inl ⟨rfl, (pj_tb3 (k := 175) (by decide +kernel)), (pj_tb3 (k := 176) (by decide +kernel)), by decide⟩⟩⟩
theorem mo_104 : pj_okP 104 mt_104 := ⟨by decide, rfl, (pj_tb4 (k := 6) (by rfl)), (pj_tb1 (k := 3) (by decide +kernel)), by decide, by decide, by decide +kernel, by decide, rfl, ⟨Or.inl rfl, Or.inl ⟨rfl, (pj_tb4 (k := 4) (by decide +kernel)), (pj_tb4 (k := 5) (by decide +kernel)), by decide⟩⟩⟩
theorem mo_105 : pj_okP 105 mt_105 := ⟨by decide, rfl, (pj_tb4 (k := 91) (by rfl)), (pj_tb1 (k := 3) (by decide +kernel)), by decide, by decide, by decide +kernel, by decide, rfl, ⟨Or.inr (Or.inl rfl), Or.inl ⟨rfl, (pj_tb4 (k := 89) (by decide +kernel)), (pj_tb4 (k := 90) (by decide +kernel)), by decide⟩⟩⟩
theorem mo_106 : pj_okP 106 mt_106 := ⟨by decide, rfl, (pj_tb4 (k := 99) (by rfl)), (pj_tb1 (k := 3) (by decide +kernel)), by decide, by decide, by decide +kernel, by decide, rfl, ⟨Or.inr (Or.inl rfl), Or.inl ⟨rfl, (pj_tb4 (k := 98) (by decide +kernel)), (pj_tk (k := 31) (by decide +kernel)), by decide⟩⟩⟩
theorem mo_107 : pj_okP 107 mt_107 := ⟨by decide, rfl, (pj_tb4 (k := 102) (by rfl)), (pj_tb1 (k := 3) (by decide +kernel)), by decide, by decide, by decide +kernel, by decide, rfl, ⟨Or.inr (Or.inl rfl), Or.inr (Or.inl ⟨rfl, (pj_tb4 (k := 101) (by decide +kernel)), by decide⟩)⟩⟩
theorem mo_108 : pj_okP 108 mt_108 := ⟨by decide, rfl, (pj_tb4 (k := 135) (by rfl)), (pj_tb1 (k := 3) (by decide +kernel)), by decide, by decide, by decide +kernel, by decide, rfl, ⟨Or.inr (Or.inl rfl), Or.inl ⟨rfl, (pj_tb4 (k := 133) (by decide +kernel)), (pj_tb4 (k := 134) (by decide +kernel)), by decide⟩⟩⟩
theorem mo_109 : pj_okP 109 mt_109 := ⟨by decide, rfl, (pj_tb4 (k := 148) (by rfl)), (pj_tb1 (k := 3) (by decide +kernel)), by decide, by decide, by decide +kernel, by decide, rfl, ⟨Or.inr (Or.inr (Or.inr rfl)), Or.inl ⟨rfl, (pj_tb4 (k := 146) (by decide +kernel)), (pj_tb4 (k := 147) (by decide +kernel)), by decide⟩⟩⟩
theorem mo_110 : pj_okP 110 mt_110 := ⟨by decide, rfl, (pj_tb1 (k := 25) (by rfl)), (pj_tb1 (k := 1) (by decide +kernel)), by decide, by decide, by decide +kernel, by decide, rfl, ⟨Or.inl rfl, Or.inr (Or.inr ⟨rfl, (pj_tb1 (k := 24) (by decide +kernel)), by decide, rfl⟩)⟩⟩
theorem mo_111 : pj_okP 111 mt_111 := ⟨by decide, rfl, (pj_tb3 (k := 57) (by rfl)), (pj_tb1 (k := 1) (by decide +kernel)), by decide, by decide, by decide +kernel, by decide, rfl, ⟨Or.inr (Or.inl rfl), Or.inl ⟨rfl, (pj_tb3 (k := 55) (by decide +kernel)), (pj_tb3 (k := 56) (by decide +kernel)), by decide⟩⟩⟩
theorem mo_112 : pj_okP 112 mt_112 := ⟨by decide, rfl, (pj_tb3 (k := 65) (by rfl)), (pj_tb1 (k := 1) (by decide +kernel)), by decide, by decide, by decide +kernel, by decide, rfl, ⟨Or.inr (Or.inl rfl), Or.inl ⟨rfl, (pj_tb3 (k := 64) (by decide +kernel)), (pj_tk (k := 0) (by decide +kernel)), by decide⟩⟩⟩
theorem mo_113 : pj_okP 113 mt_113 := ⟨by decide, rfl, (pj_tb3 (k := 73) (by rfl)), (pj_tb1 (k := 1) (by decide +kernel)), by decide, by decide, by decide +kernel, by decide, rfl, ⟨Or.inr (Or.inr (Or.inr rfl)), Or.inl ⟨rfl, (pj_tb3 (k := 71) (by decide +kernel)), (pj_tb3 (k := 72) (by decide +kernel)), by decide⟩⟩⟩
theorem mo_114 : pj_okP 114 mt_114 := ⟨by decide, rfl, (pj_tb3 (k := 81) (by rfl)), (pj_tb1 (k := 1) (by decide +kernel)), by decide, by decide, by decide +kernel, by decide, rfl, ⟨Or.inr (Or.inr (Or.inr rfl)), Or.inl ⟨rfl, (pj_tb3 (k := 80) (by decide +kernel)), (pj_tk (k := 1) (by decide +kernel)), by decide⟩⟩⟩
theorem mo_115 : pj_okP 115 mt_115 := ⟨by decide, rfl, (pj_tb3 (k := 85) (by rfl)), (pj_tb1 (k := 1) (by decide +kernel)), by decide, by decide, by decide +kernel, by decide, rfl, ⟨Or.inr (Or.inl rfl), Or.inl ⟨rfl, (pj_tb3 (k := 83) (by decide +kernel)), (pj_tb3 (k := 84) (by decide +kernel)), by decide⟩⟩⟩
theorem mo_116 : pj_okP 116 mt_116 := ⟨by decide, rfl, (pj_tb4 (k := 21) (by rfl)), (pj_tb1 (k := 1) (by decide +kernel)), by decide, by decide, by decide +kernel, by decide, rfl, ⟨Or.inr (Or.inl rfl), Or.inl ⟨rfl, (pj_tb4 (k := 19) (by decide +kernel)), (pj_tb4 (k := 20) (by decide +kernel)), by decide⟩⟩⟩
theorem mo_117 : pj_okP 117 mt_117 := ⟨by decide, rfl, (pj_tb4 (k := 25) (by rfl)), (pj_tb1 (k := 1) (by decide +kernel)), by decide, by decide, by decide +kernel, by decide, rfl, ⟨Or.inr (Or.inl rfl), Or.inl ⟨rfl, (pj_tb4 (k := 23) (by decide +kernel)), (pj_tb4 (k := 24) (by decide +kernel)), by decide⟩⟩⟩
theorem mo_118 : pj_okP 118 mt_118 := ⟨by decide, rfl, (pj_tb4 (k := 52) (by rfl)), (pj_tb1 (k := 1) (by decide +kernel)), by decide, by decide, by decide +kernel, by decide, rfl, ⟨Or.inr (Or.inl rfl), Or.inl ⟨rfl, (pj_tb4 (k := 51) (by decide +kernel)), (pj_tk (k := 28) (by decide +kernel)), by decide⟩⟩⟩
theorem mo_119 : pj_okP 119 mt_119 := ⟨by decide, rfl, (pj_tb4 (k := 59) (by rfl)), (pj_tb1 (k := 1) (by decide +kernel)), by decide, by decide, by decide +kernel, by decide, rfl, ⟨Or.inr (Or.inl rfl), Or.inl ⟨rfl, (pj_tb4 (k := 57) (by decide +kernel)), (pj_tb4 (k := 58) (by decide +kernel)), by decide⟩⟩⟩
theorem mo_120 : pj_okP 120 mt_120 := ⟨by decide, rfl, (pj_tb4 (k := 63) (by rfl)), (pj_tb1 (k := 1) (by decide +kernel)), by decide, by decide, by decide +kernel, by decide, rfl, ⟨Or.inr (Or.inr (Or.inr rfl)), Or.inl ⟨rfl, (pj_tb4 (k := 62) (by decide +kernel)), (pj_tk (k := 29) (by decide +kernel)), by decide⟩⟩⟩
theorem mo_121 : pj_okP 121 mt_121 := ⟨by decide, rfl, (pj_tb4 (k := 66) (by rfl)), (pj_tb1 (k := 1) (by decide +kernel)), by decide, by decide, by decide +kernel, by decide, rfl, ⟨Or.inr (Or.inl rfl), Or.inr (Or.inl ⟨rfl, (pj_tb4 (k := 65) (by decide +kernel)), by decide⟩)⟩⟩
theorem mo_122 : pj_okP 122 mt_122 := ⟨by decide, rfl, (pj_tb4 (k := 70) (by rfl)), (pj_tb1 (k := 1) (by decide +kernel)), by decide, by decide, by decide +kernel, by decide, rfl, ⟨Or.inr (Or.inr (Or.inr rfl)), Or.inl ⟨rfl, (pj_tb4 (k := 69) (by decide +kernel)), (pj_tk (k := 30) (by decide +kernel)), by decide⟩⟩⟩
theorem mo_123 : pj_okP 123 mt_123 := ⟨by decide, rfl, (pj_tb4 (k := 74) (by rfl)), (pj_tb1 (k := 1) (by decide +kernel)), by decide, by decide, by decide +kernel, by decide, rfl, ⟨Or.inr (Or.inl rfl), Or.inl ⟨rfl, (pj_tb4 (k := 72) (by decide +kernel)), (pj_tb4 (k := 73) (by decide +kernel)), by decide⟩⟩⟩
theorem mo_124 : pj_okP 124 mt_124 := ⟨by decide, rfl, (pj_tb4 (k := 82) (by rfl)), (pj_tb1 (k := 1) (by decide +kernel)), by decide, by decide, by decide +kernel, by decide, rfl, ⟨Or.inr (Or.inl rfl), Or.inl ⟨rfl, (pj_tb4 (k := 80) (by decide +kernel)), (pj_tb4 (k := 81) (by decide +kernel)), by decide⟩⟩⟩
theorem mo_125 : pj_okP 125 mt_125 := ⟨by decide, rfl, (pj_tb4 (k := 86) (by rfl)), (pj_tb1 (k := 1) (by decide +kernel)), by decide, by decide, by decide +kernel, by decide, rfl, ⟨Or.inr (Or.inr (Or.inl rfl)), Or.inl ⟨rfl, (pj_tb4 (k := 84) (by decide +kernel)), (pj_tb4 (k := 85) (by decide +kernel)), by decide⟩⟩⟩
theorem mo_126 : pj_okP 126 mt_126 := ⟨by decide, rfl, (pj_tb4 (k := 110) (by rfl)), (pj_tb1 (k := 1) (by decide +kernel)), by decide, by decide, by decide +kernel, by decide, rfl, ⟨Or.inr (Or.inl rfl), Or.inl ⟨rfl, (pj_tb4 (k := 108) (by decide +kernel)), (pj_tb4 (k := 109) (by decide +kernel)), by decide⟩⟩⟩
theorem mo_127 : pj_okP 127 mt_127 := ⟨by decide, rfl, (pj_tb4 (k := 114) (by rfl)), (pj_tb1 (k := 1) (by decide +kernel)), by decide, by decide, by decide +kernel, by decide, rfl, ⟨Or.inr (Or.inr (Or.inr rfl)), Or.inl ⟨rfl, (pj_tb4 (k := 113) (by decide +kernel)), (pj_tk (k := 32) (by decide +kernel)), by decide⟩⟩⟩
theorem mo_128 : pj_okP 128 mt_128 := ⟨by decide, rfl, (pj_tb4 (k := 118) (by rfl)), (pj_tb1 (k := 1) (by decide +kernel)), by decide, by decide, by decide +kernel, by decide, rfl, ⟨Or.inl rfl, Or.inl ⟨rfl, (pj_tb4 (k := 117) (by decide +kernel)), (pj_tk (k := 33) (by decide +kernel)), by decide⟩⟩⟩
theorem mo_129 : pj_okP 129 mt_129 := ⟨by decide, rfl, (pj_tb4 (k := 170) (by rfl)), (pj_tb1 (k := 1) (by decide +kernel)), by decide, by decide, by decide +kernel, by decide, rfl, ⟨Or.inr (Or.inl rfl), Or.inl ⟨rfl, (pj_tb4 (k := 168) (by decide +kernel)), (pj_tb4 (k := 169) (by decide +kernel)), by decide⟩⟩⟩
theorem mo_130 : pj_okP 130 mt_130 := ⟨by decide, rfl, (pj_tb4 (k := 174) (by rfl)), (pj_tb1 (k := 1) (by decide +kernel)), by decide, by decide, by decide +kernel, by decide, rfl, ⟨Or.inr (Or.inl rfl), Or.inl ⟨rfl, (pj_tb4 (k := 172) (by decide +kernel)), (pj_tb4 (k := 173) (by decide +kernel)), by decide⟩⟩⟩
theorem mo_131 : pj_okP 131 mt_131 := ⟨by decide, rfl, (pj_tb4 (k := 178) (by rfl)), (pj_tb1 (k := 1) (by decide +kernel)), by decide, by decide, by decide +kernel, by decide, rfl, ⟨Or.inr (Or.inr (Or.inr rfl)), Or.inl ⟨rfl, (pj_tb4 (k := 177) (by decide +kernel)), (pj_tk (k := 38) (by decide +kernel)), by decide⟩⟩⟩
theorem mo_132 : pj_okP 132 mt_132 := ⟨by decide, rfl, (pj_tb4 (k := 182) (by rfl)), (pj_tb1 (k := 1) (by decide +kernel)), by decide, by decide, by decide +kernel, by decide, rfl, ⟨Or.inr (Or.inl rfl), Or.inl ⟨rfl, (pj_tb4 (k := 180) (by decide +kernel)), (pj_tb4 (k := 181) (by decide +kernel)), by decide⟩⟩⟩
theorem mo_133 : pj_okP 133 mt_133 := ⟨by decide, rfl, (pj_tb4 (k := 213) (by rfl)), (pj_tb1 (k := 1) (by decide +kernel)), by decide, by decide, by decide +kernel, by decide, rfl, ⟨Or.inr (Or.inl rfl), Or.inl ⟨rfl, (pj_tb4 (k := 211) (by decide +kernel)), (pj_tb4 (k := 212) (by decide +kernel)), by decide⟩⟩⟩
theorem mo_134 : pj_okP 134 mt_134 := ⟨by decide, rfl, (pj_tb4 (k := 217) (by rfl)), (pj_tb1 (k := 1) (by decide +kernel)), by decide, by decide, by decide +kernel, by decide, rfl, ⟨Or.inr (Or.inr (Or.inr rfl)), Or.inl ⟨rfl, (pj_tb4 (k := 216) (by decide +kernel)), (pj_tk (k := 42) (by decide +kernel)), by decide⟩⟩⟩
theorem mo_135 : pj_okP 135 mt_135 := ⟨by decide, rfl, (pj_tb4 (k := 221) (by rfl)), (pj_tb1 (k := 1) (by decide +kernel)), by decide, by decide, by decide +kernel, by decide, rfl, ⟨Or.inr (Or.inr (Or.inr rfl)), Or.inl ⟨rfl, (pj_tb4 (k := 220) (by decide +kernel)), (pj_tk (k := 43) (by decide +kernel)), by decide⟩⟩⟩
theorem mo_136 : pj_okP 136 mt_136 := ⟨by decide, rfl, (pj_tb4 (k := 226) (by rfl)), (pj_tb1 (k := 1) (by decide +kernel)), by decide, by decide, by decide +kernel, by decide, rfl, ⟨Or.inr (Or.inl rfl), Or.inl ⟨rfl, (pj_tb4 (k := 224) (by decide +kernel)), (pj_tb4 (k := 225) (by decide +kernel)), by decide⟩⟩⟩
theorem mo_137 : pj_okP 137 mt_137 := ⟨by decide, rfl, (pj_tb5 (k := 33) (by rfl)), (pj_tb1 (k := 1) (by decide +kernel)), by decide, by decide, by decide +kernel, by decide, rfl, ⟨Or.inr (Or.inl rfl), Or.inl ⟨rfl, (pj_tb5 (k := 31) (by decide +kernel)), (pj_tb5 (k := 32) (by decide +kernel)), by decide⟩⟩⟩
theorem mo_138 : pj_okP 138 mt_138 := ⟨by decide, rfl, (pj_tb5 (k := 37) (by rfl)), (pj_tb1 (k := 1) (by decide +kernel)), by decide, by decide, by decide +kernel, by decide, rfl, ⟨Or.inr (Or.inl rfl), Or.inl ⟨rfl, (pj_tb5 (k := 35) (by decide +kernel)), (pj_tb5 (k := 36) (by decide +kernel)), by decide⟩⟩⟩
theorem mo_139 : pj_okP 139 mt_139 := ⟨by decide, rfl, (pj_tb5 (k := 42) (by rfl)), (pj_tb1 (k := 1) (by decide +kernel)), by decide, by decide, by decide +kernel, by decide, rfl, ⟨Or.inr (Or.inl rfl), Or.inl ⟨rfl, (pj_tb5 (k := 40) (by decide +kernel)), (pj_tb5 (k := 41) (by decide +kernel)), by decide⟩⟩⟩
theorem mo_140 : pj_okP 140 mt_140 := ⟨by decide, rfl, (pj_tb5 (k := 51) (by rfl)), (pj_tb1 (k := 1) (by decide +kernel)), by decide, by decide, by decide +kernel, by decide, rfl, ⟨Or.inr (Or.inl rfl), Or.inl ⟨rfl, (pj_tb5 (k := 49) (by decide +kernel)), (pj_tb5 (k := 50) (by decide +kernel)), by decide⟩⟩⟩
theorem mo_141 : pj_okP 141 mt_141 := ⟨by decide, rfl, (pj_tb5 (k := 84) (by rfl)), (pj_tb1 (k := 1) (by decide +kernel)), by decide, by decide, by decide +kernel, by decide, rfl, ⟨Or.inr (Or.inl rfl), Or.inl ⟨rfl, (pj_tb5 (k := 82) (by decide +kernel)), (pj_tb5 (k := 83) (by decide +kernel)), by decide⟩⟩⟩
theorem mo_142 : pj_okP 142 mt_142 := ⟨by decide, rfl, (pj_tb5 (k := 96) (by rfl)), (pj_tb1 (k := 1) (by decide +kernel)), by decide, by decide, by decide +kernel, by decide, rfl, ⟨Or.inr (Or.inl rfl), Or.inl ⟨rfl, (pj_tb5 (k := 94) (by decide +kernel)), (pj_tb5 (k := 95) (by decide +kernel)), by decide⟩⟩⟩
theorem mo_143 : pj_okP 143 mt_143 := ⟨by decide, rfl, (pj_tb5 (k := 106) (by rfl)), (pj_tb1 (k := 1) (by decide +kernel)), by decide, by decide, by decide +kernel, by decide, rfl, ⟨Or.inl rfl, Or.inl ⟨rfl, (pj_tb5 (k := 105) (by decide +kernel)), (pj_tk (k := 56) (by decide +kernel)), by decide⟩⟩⟩
theorem mo_144 : pj_okP 144 mt_144 := ⟨by decide, rfl, (pj_tb5 (k := 110) (by rfl)), (pj_tb1 (k := 1) (by decide +kernel)), by decide, by decide, by decide +kernel, by decide, rfl, ⟨Or.inr (Or.inl rfl), Or.inl ⟨rfl, (pj_tb5 (k := 108) (by decide +kernel)), (pj_tb5 (k := 109) (by decide +kernel)), by decide⟩⟩⟩
theorem mo_145 : pj_okP 145 mt_145 := ⟨by decide, rfl, (pj_tb5 (k := 114) (by rfl)), (pj_tb1 (k := 1) (by decide +kernel)), by decide, by decide, by decide +kernel, by decide, rfl, ⟨Or.inr (Or.inr (Or.inr rfl)), Or.inl ⟨rfl, (pj_tb5 (k := 113) (by decide +kernel)), (pj_tk (k := 57) (by decide +kernel)), by decide⟩⟩⟩
theorem mo_146 : pj_okP 146 mt_146 := ⟨by decide, rfl, (pj_tb5 (k := 118) (by rfl)), (pj_tb1 (k := 1) (by decide +kernel)), by decide, by decide, by decide +kernel, by decide, rfl, ⟨Or.inr (Or.inl rfl), Or.inl ⟨rfl, (pj_tb5 (k := 117) (by decide +kernel)), (pj_tk (k := 58) (by decide +kernel)), by decide⟩⟩⟩
theorem mo_147 : pj_okP 147 mt_147 := ⟨by decide, rfl, (pj_tb5 (k := 130) (by rfl)), (pj_tb1 (k := 1) (by decide +kernel)), by decide, by decide, by decide +kernel, by decide, rfl, ⟨Or.inr (Or.inr (Or.inr rfl)), Or.inl ⟨rfl, (pj_tb5 (k := 128) (by decide +kernel)), (pj_tb5 (k := 129) (by decide +kernel)), by decide⟩⟩⟩
theorem mo_148 : pj_okP 148 mt_148 := ⟨by decide, rfl, (pj_tb5 (k := 135) (by rfl)), (pj_tb1 (k := 1) (by decide +kernel)), by decide, by decide, by decide +kernel, by decide, rfl, ⟨Or.inr (Or.inr (Or.inr rfl)), Or.inl ⟨rfl, (pj_tb5 (k := 133) (by decide +kernel)), (pj_tb5 (k := 134) (by decide +kernel)), by decide⟩⟩⟩
theorem mo_149 : pj_okP 149 mt_149 := ⟨by decide, rfl, (pj_tb5 (k := 139) (by rfl)), (pj_tb1 (k := 1) (by decide +kernel)), by decide, by decide, by decide +kernel, by decide, rfl, ⟨Or.inr (Or.inr (Or.inr rfl)), Or.inl ⟨rfl, (pj_tb5 (k := 138) (by decide +kernel)), (pj_tk (k := 59) (by decide +kernel)), by decide⟩⟩⟩
theorem mo_150 : pj_okP 150 mt_150 := ⟨by decide, rfl, (pj_tb5 (k := 144) (by rfl)), (pj_tb1 (k := 1) (by decide +kernel)), by decide, by decide, by decide +kernel, by decide, rfl, ⟨Or.inr (Or.inr (Or.inr rfl)), Or.inl ⟨rfl, (pj_tb5 (k := 142) (by decide +kernel)), (pj_tb5 (k := 143) (by decide +kernel)), by decide⟩⟩⟩
theorem mo_151 : pj_okP 151 mt_151 := ⟨by decide, rfl, (pj_tb5 (k := 148) (by rfl)), (pj_tb1 (k := 1) (by decide +kernel)), by decide, by decide, by decide +kernel, by decide, rfl, ⟨Or.inr (Or.inr (Or.inr rfl)), Or.inl ⟨rfl, (pj_tb5 (k := 146) (by decide +kernel)), (pj_tb5 (k := 147) (by decide +kernel)), by decide⟩⟩⟩
theorem mo_152 : pj_okP 152 mt_152 := ⟨by decide, rfl, (pj_tb5 (k := 156) (by rfl)), (pj_tb1 (k := 1) (by decide +kernel)), by decide, by decide, by decide +kernel, by decide, rfl, ⟨Or.inr (Or.inr (Or.inr rfl)), Or.inl ⟨rfl, (pj_tb5 (k := 154) (by decide +kernel)), (pj_tb5 (k := 155) (by decide +kernel)), by decide⟩⟩⟩
theorem mo_153 : pj_okP 153 mt_153 := ⟨by decide, rfl, (pj_tb5 (k := 160) (by rfl)), (pj_tb1 (k := 1) (by decide +kernel)), by decide, by decide, by decide +kernel, by decide, rfl, ⟨Or.inr (Or.inl rfl), Or.inl ⟨rfl, (pj_tb5 (k := 158) (by decide +kernel)), (pj_tb5 (k := 159) (by decide +kernel)), by decide⟩⟩⟩
theorem mo_154 : pj_okP 154 mt_154 := ⟨by decide, rfl, (pj_tb5 (k := 164) (by rfl)), (pj_tb1 (k := 1) (by decide +kernel)), by decide, by decide, by decide +kernel, by decide, rfl, ⟨Or.inr (Or.inl rfl), Or.inl ⟨rfl, (pj_tb5 (k := 162) (by decide +kernel)), (pj_tb5 (k := 163) (by decide +kernel)), by decide⟩⟩⟩
theorem mo_155 : pj_okP 155 mt_155 := ⟨by decide, rfl, (pj_tb5 (k := 176) (by rfl)), (pj_tb1 (k := 1) (by decide +kernel)), by decide, by decide, by decide +kernel, by decide, rfl, ⟨Or.inr (Or.inl rfl), Or.inl ⟨rfl, (pj_tb5 (k := 174) (by decide +kernel)), (pj_tb5 (k := 175) (by decide +kernel)), by decide⟩⟩⟩
theorem mo_156 : pj_okP 156 mt_156 := ⟨by decide, rfl, (pj_tb5 (k := 180) (by rfl)), (pj_tb1 (k := 1) (by decide +kernel)), by decide, by decide, by decide +kernel, by decide, rfl, ⟨Or.inr (Or.inr (Or.inr rfl)), Or.inl ⟨rfl, (pj_tb5 (k := 178) (by decide +kernel)), (pj_tb5 (k := 179) (by decide +kernel)), by decide⟩⟩⟩
theorem mo_157 : pj_okP 157 mt_157 := ⟨by decide, rfl, (pj_tb5 (k := 199) (by rfl)), (pj_tb1 (k := 1) (by decide +kernel)), by decide, by decide, by decide +kernel, by decide, rfl, ⟨Or.inr (Or.inl rfl), Or.inl ⟨rfl, (pj_tb5 (k := 197) (by decide +kernel)), (pj_tb5 (k := 198) (by decide +kernel)), by decide⟩⟩⟩
theorem mo_158 : pj_okP 158 mt_158 := ⟨by decide, rfl, (pj_tb5 (k := 204) (by rfl)), (pj_tb1 (k := 17) (by decide +kernel)), by decide, by decide, by decide +kernel, by decide, rfl, ⟨Or.inl rfl, Or.inr (Or.inr ⟨rfl, (pj_tb5 (k := 203) (by decide +kernel)), by decide, rfl⟩)⟩⟩
theorem mo_159 : pj_okP 159 mt_159 := ⟨by decide, rfl, (pj_tb6 (k := 172) (by rfl)), (pj_tb1 (k := 17) (by decide +kernel)), by decide, by decide, by decide +kernel, by decide, rfl, ⟨Or.inr (Or.inl rfl), Or.inl ⟨rfl, (pj_tb6 (k := 170) (by decide +kernel)), (pj_tb6 (k := 171) (by decide +kernel)), by decide⟩⟩⟩
theorem mo_160 : pj_okP 160 mt_160 := ⟨by decide, rfl, (pj_tb6 (k := 176) (by rfl)), (pj_tb1 (k := 17) (by decide +kernel)), by decide, by decide, by decide +kernel, by decide, rfl, ⟨Or.inr (Or.inl rfl), Or.inl ⟨rfl, (pj_tb6 (k := 175) (by decide +kernel)), (pj_tk (k := 62) (by decide +kernel)), by decide⟩⟩⟩
theorem mo_161 : pj_okP 161 mt_161 := ⟨by decide, rfl, (pj_tb6 (k := 180) (by rfl)), (pj_tb1 (k := 17) (by decide +kernel)), by decide, by decide, by decide +kernel, by decide, rfl, ⟨Or.inl rfl, Or.inl ⟨rfl, (pj_tb6 (k := 179) (by decide +kernel)), (pj_tk (k := 63) (by decide +kernel)), by decide⟩⟩⟩
theorem mo_162 : pj_okP 162 mt_162 := ⟨by decide, rfl, (pj_tb6 (k := 184) (by rfl)), (pj_tb1 (k := 17) (by decide +kernel)), by decide, by decide, by decide +kernel, by decide, rfl, ⟨Or.inr (Or.inr (Or.inr rfl)), Or.inl ⟨rfl, (pj_tb6 (k := 182) (by decide +kernel)), (pj_tb6 (k := 183) (by decide +kernel)), by decide⟩⟩⟩
theorem mo_163 : pj_okP 163 mt_163 := ⟨by decide, rfl, (pj_tb6 (k := 188) (by rfl)), (pj_tb1 (k := 17) (by decide +kernel)), by decide, by decide, by decide +kernel, by decide, rfl, ⟨Or.inr (Or.inl rfl), Or.inl ⟨rfl, (pj_tb6 (k := 186) (by decide +kernel)), (pj_tb6 (k := 187) (by decide +kernel)), by decide⟩⟩⟩
theorem mo_164 : pj_okP 164 mt_164 := ⟨by decide, rfl, (pj_tb6 (k := 192) (by rfl)), (pj_tb1 (k := 17) (by decide +kernel)), by decide, by decide, by decide +kernel, by decide, rfl, ⟨Or.inl rfl, Or.inl ⟨rfl, (pj_tb6 (k := 191) (by decide +kernel)), (pj_tk (k := 64) (by decide +kernel)), by decide⟩⟩⟩
theorem mo_165 : pj_okP 165 mt_165 := ⟨by decide, rfl, (pj_tb6 (k := 195) (by rfl)), (pj_tb1 (k := 17) (by decide +kernel)), by decide, by decide, by decide +kernel, by decide, rfl, ⟨Or.inr (Or.inr (Or.inr rfl)), Or.inr (Or.inl ⟨rfl, (pj_tb6 (k := 194) (by decide +kernel)), by decide⟩)⟩⟩
theorem mo_166 : pj_okP 166 mt_166 := ⟨by decide, rfl, (pj_tb6 (k := 198) (by rfl)), (pj_tb1 (k := 17) (by decide +kernel)), by decide, by decide, by decide +kernel, by decide, rfl, ⟨Or.inr (Or.inr (Or.inr rfl)), Or.inr (Or.inl ⟨rfl, (pj_tb6 (k := 197) (by decide +kernel)), by decide⟩)⟩⟩
theorem mo_167 : pj_okP 167 mt_167 := ⟨by decide, rfl, (pj_tb6 (k := 202) (by rfl)), (pj_tb1 (k := 17) (by decide +kernel)), by decide, by decide, by decide +kernel, by decide, rfl, ⟨Or.inl rfl, Or.inl ⟨rfl, (pj_tb6 (k := 201) (by decide +kernel)), (pj_tk (k := 65) (by decide +kernel)), by decide⟩⟩⟩
theorem mo_168 : pj_okP 168 mt_168 := ⟨by decide, rfl, (pj_tb6 (k := 206) (by rfl)), (pj_tb1 (k := 17) (by decide +kernel)), by decide, by decide, by decide +kernel, by decide, rfl, ⟨Or.inl rfl, Or.inl ⟨rfl, (pj_tb6 (k := 205) (by decide +kernel)), (pj_tk (k := 66) (by decide +kernel)), by decide⟩⟩⟩
theorem mo_169 : pj_okP 169 mt_169 := ⟨by decide, rfl, (pj_tb6 (k := 210) (by rfl)), (pj_tb1 (k := 17) (by decide +kernel)), by decide, by decide, by decide +kernel, by decide, rfl, ⟨Or.inl rfl, Or.inl ⟨rfl, (pj_tb6 (k := 209) (by decide +kernel)), (pj_tk (k := 67) (by decide +kernel)), by decide⟩⟩⟩
theorem mo_170 : pj_okP 170 mt_170 := ⟨by decide, rfl, (pj_tb6 (k := 215) (by rfl)), (pj_tb1 (k := 17) (by decide +kernel)), by decide, by decide, by decide +kernel, by decide, rfl, ⟨Or.inr (Or.inr (Or.inr rfl)), Or.inl ⟨rfl, (pj_tb6 (k := 214) (by decide +kernel)), (pj_tk (k := 68) (by decide +kernel)), by decide⟩⟩⟩
theorem mo_171 : pj_okP 171 mt_171 := ⟨by decide, rfl, (pj_tb6 (k := 219) (by rfl)), (pj_tb1 (k := 17) (by decide +kernel)), by decide, by decide, by decide +kernel, by decide, rfl, ⟨Or.inl rfl, Or.inl ⟨rfl, (pj_tb6 (k := 218) (by decide +kernel)), (pj_tk (k := 69) (by decide +kernel)), by decide⟩⟩⟩
theorem mo_172 : pj_okP 172 mt_172 := ⟨by decide, rfl, (pj_tb6 (k := 223) (by rfl)), (pj_tb1 (k := 17) (by decide +kernel)), by decide, by decide, by decide +kernel, by decide, rfl, ⟨Or.inr (Or.inr (Or.inr rfl)), Or.inl ⟨rfl, (pj_tb6 (k := 222) (by decide +kernel)), (pj_tk (k := 70) (by decide +kernel)), by decide⟩⟩⟩
theorem mo_173 : pj_okP 173 mt_173 := ⟨by decide, rfl, (pj_tb6 (k := 227) (by rfl)), (pj_tb1 (k := 17) (by decide +kernel)), by decide, by decide, by decide +kernel, by decide, rfl, ⟨Or.inr (Or.inr (Or.inl rfl)), Or.inl ⟨rfl, (pj_tb6 (k := 226) (by decide +kernel)), (pj_tk (k := 71) (by decide +kernel)), by decide⟩⟩⟩
theorem mo_174 : pj_okP 174 mt_174 := ⟨by decide, rfl, (pj_tb6 (k := 231) (by rfl)), (pj_tb1 (k := 17) (by decide +kernel)), by decide, by decide, by decide +kernel, by decide, rfl, ⟨Or.inr (Or.inr (Or.inr rfl)), Or.inl ⟨rfl, (pj_tb6 (k := 230) (by decide +kernel)), (pj_tk (k := 72) (by decide +kernel)), by decide⟩⟩⟩
theorem mo_175 : pj_okP 175 mt_175 := ⟨by decide, rfl, (pj_tb7 (k := 16) (by rfl)), (pj_tb1 (k := 17) (by decide +kernel)), by decide, by decide, by decide +kernel, by decide, rfl, ⟨Or.inr (Or.inl rfl), Or.inl ⟨rfl, (pj_tb7 (k := 15) (by decide +kernel)), (pj_tk (k := 73) (by decide +kernel)), by decide⟩⟩⟩
theorem mo_176 : pj_okP 176 mt_176 := ⟨by decide, rfl, (pj_tb7 (k := 20) (by rfl)), (pj_tb1 (k := 17) (by decide +kernel)), by decide, by decide, by decide +kernel, by decide, rfl, ⟨Or.inr (Or.inl rfl), Or.inl ⟨rfl, (pj_tb7 (k := 19) (by decide +kernel)), (pj_tk (k := 74) (by decide +kernel)), by decide⟩⟩⟩
theorem mo_177 : pj_okP 177 mt_177 := ⟨by decide, rfl, (pj_tb7 (k := 24) (by rfl)), (pj_tb1 (k := 17) (by decide +kernel)), by decide, by decide, by decide +kernel, by decide, rfl, ⟨Or.inl rfl, Or.inl ⟨rfl, (pj_tb7 (k := 23) (by decide +kernel)), (pj_tk (k := 75) (by decide +kernel)), by decide⟩⟩⟩
theorem mo_178 : pj_okP 178 mt_178 := ⟨by decide, rfl, (pj_tb7 (k := 28) (by rfl)), (pj_tb1 (k := 17) (by decide +kernel)), by decide, by decide, by decide +kernel, by decide, rfl, ⟨Or.inr (Or.inl rfl), Or.inl ⟨rfl, (pj_tb7 (k := 27) (by decide +kernel)), (pj_tk (k := 76) (by decide +kernel)), by decide⟩⟩⟩
theorem mo_179 : pj_okP 179 mt_179 := ⟨by decide, rfl, (pj_tb7 (k := 31) (by rfl)), (pj_tb1 (k := 17) (by decide +kernel)), by decide, by decide, by decide +kernel, by decide, rfl, ⟨Or.inr (Or.inr (Or.inr rfl)), Or.inr (Or.inl ⟨rfl, (pj_tb7 (k := 30) (by decide +kernel)), by decide⟩)⟩⟩
theorem mo_180 : pj_okP 180 mt_180 := ⟨by decide, rfl, (pj_tb7 (k := 35) (by rfl)), (pj_tb1 (k := 17) (by decide +kernel)), by decide, by decide, by decide +kernel, by decide, rfl, ⟨Or.inl rfl, Or.inl ⟨rfl, (pj_tb7 (k := 34) (by decide +kernel)), (pj_tk (k := 77) (by decide +kernel)), by decide⟩⟩⟩
theorem mo_181 : pj_okP 181 mt_181 := ⟨by decide, rfl, (pj_tb7 (k := 39) (by rfl)), (pj_tb1 (k := 17) (by decide +kernel)), by decide, by decide, by decide +kernel, by decide, rfl, ⟨Or.inl rfl, Or.inl ⟨rfl, (pj_tb7 (k := 38) (by decide +kernel)), (pj_tk (k := 78) (by decide +kernel)), by decide⟩⟩⟩
theorem mo_182 : pj_okP 182 mt_182 := ⟨by decide, rfl, (pj_tb7 (k := 43) (by rfl)), (pj_tb1 (k := 17) (by decide +kernel)), by decide, by decide, by decide +kernel, by decide, rfl, ⟨Or.inr (Or.inr (Or.inl rfl)), Or.inl ⟨rfl, (pj_tb7 (k := 42) (by decide +kernel)), (pj_tk (k := 79) (by decide +kernel)), by decide⟩⟩⟩
theorem mo_183 : pj_okP 183 mt_183 := ⟨by decide, rfl, (pj_tb7 (k := 47) (by rfl)), (pj_tb1 (k := 17) (by decide +kernel)), by decide, by decide, by decide +kernel, by decide, rfl, ⟨Or.inr (Or.inr (Or.inr rfl)), Or.inl ⟨rfl, (pj_tb7 (k := 46) (by decide +kernel)), (pj_tk (k := 80) (by decide +kernel)), by decide⟩⟩⟩
theorem mo_184 : pj_okP 184 mt_184 := ⟨by decide, rfl, (pj_tb7 (k := 51) (by rfl)), (pj_tb1 (k := 17) (by decide +kernel)), by decide, by decide, by decide +kernel, by decide, rfl, ⟨Or.inl rfl, Or.inl ⟨rfl, (pj_tb7 (k := 50) (by decide +kernel)), (pj_tk (k := 81) (by decide +kernel)), by decide⟩⟩⟩
theorem mo_185 : pj_okP 185 mt_185 := ⟨by decide, rfl, (pj_tb7 (k := 55) (by rfl)), (pj_tb1 (k := 17) (by decide +kernel)), by decide, by decide, by decide +kernel, by decide, rfl, ⟨Or.inl rfl, Or.inl ⟨rfl, (pj_tb7 (k := 54) (by decide +kernel)), (pj_tk (k := 82) (by decide +kernel)), by decide⟩⟩⟩
theorem mo_186 : pj_okP 186 mt_186 := ⟨by decide, rfl, (pj_tb7 (k := 59) (by rfl)), (pj_tb1 (k := 17) (by decide +kernel)), by decide, by decide, by decide +kernel, by decide, rfl, ⟨Or.inl rfl, Or.inl ⟨rfl, (pj_tb7 (k := 58) (by decide +kernel)), (pj_tk (k := 83) (by decide +kernel)), by decide⟩⟩⟩
theorem mo_187 : pj_okP 187 mt_187 := ⟨by decide, rfl, (pj_tb7 (k := 63) (by rfl)), (pj_tb1 (k := 17) (by decide +kernel)), by decide, by decide, by decide +kernel, by decide, rfl, ⟨Or.inr (Or.inr (Or.inr rfl)), Or.inl ⟨rfl, (pj_tb7 (k := 62) (by decide +kernel)), (pj_tk (k := 84) (by decide +kernel)), by decide⟩⟩⟩
theorem mo_188 : pj_okP 188 mt_188 := ⟨by decide, rfl, (pj_tb7 (k := 66) (by rfl)), (pj_tb1 (k := 17) (by decide +kernel)), by decide, by decide, by decide +kernel, by decide, rfl, ⟨Or.inr (Or.inr (Or.inr rfl)), Or.inr (Or.inl ⟨rfl, (pj_tb7 (k := 65) (by decide +kernel)), by decide⟩)⟩⟩
theorem mo_189 : pj_okP 189 mt_189 := ⟨by decide, rfl, (pj_tb7 (k := 70) (by rfl)), (pj_tb1 (k := 17) (by decide +kernel)), by decide, by decide, by decide +kernel, by decide, rfl, ⟨Or.inl rfl, Or.inl ⟨rfl, (pj_tb7 (k := 69) (by decide +kernel)), (pj_tk (k := 85) (by decide +kernel)), by decide⟩⟩⟩
theorem mo_190 : pj_okP 190 mt_190 := ⟨by decide, rfl, (pj_tb7 (k := 74) (by rfl)), (pj_tb1 (k := 17) (by decide +kernel)), by decide, by decide, by decide +kernel, by decide, rfl, ⟨Or.inr (Or.inr (Or.inr rfl)), Or.inl ⟨rfl, (pj_tb7 (k := 73) (by decide +kernel)), (pj_tk (k := 86) (by decide +kernel)), by decide⟩⟩⟩
theorem mo_191 : pj_okP 191 mt_191 := ⟨by decide, rfl, (pj_tb7 (k := 78) (by rfl)), (pj_tb1 (k := 17) (by decide +kernel)), by decide, by decide, by decide +kernel, by decide, rfl, ⟨Or.inl rfl, Or.inl ⟨rfl, (pj_tb7 (k := 77) (by decide +kernel)), (pj_tk (k := 87) (by decide +kernel)), by decide⟩⟩⟩
theorem mo_192 : pj_okP 192 mt_192 := ⟨by decide, rfl, (pj_tb7 (k := 82) (by rfl)), (pj_tb1 (k := 17) (by decide +kernel)), by decide, by decide, by decide +kernel, by decide, rfl, ⟨Or.inl rfl, Or.inl ⟨rfl, (pj_tb7 (k := 81) (by decide +kernel)), (pj_tk (k := 88) (by decide +kernel)), by decide⟩⟩⟩
theorem mo_193 : pj_okP 193 mt_193 := ⟨by decide, rfl, (pj_tb7 (k := 86) (by rfl)), (pj_tb1 (k := 17) (by decide +kernel)), by decide, by decide, by decide +kernel, by decide, rfl, ⟨Or.inr (Or.inr (Or.inr rfl)), Or.inl ⟨rfl, (pj_tb7 (k := 85) (by decide +kernel)), (pj_tk (k := 89) (by decide +kernel)), by decide⟩⟩⟩
theorem mo_194 : pj_okP 194 mt_194 := ⟨by decide, rfl, (pj_tb7 (k := 90) (by rfl)), (pj_tb1 (k := 17) (by decide +kernel)), by decide, by decide, by decide +kernel, by decide, rfl, ⟨Or.inl rfl, Or.inl ⟨rfl, (pj_tb7 (k := 89) (by decide +kernel)), (pj_tk (k := 90) (by decide +kernel)), by decide⟩⟩⟩
theorem mo_195 : pj_okP 195 mt_195 := ⟨by decide, rfl, (pj_tb7 (k := 93) (by rfl)), (pj_tb1 (k := 17) (by decide +kernel)), by decide, by decide, by decide +kernel, by decide, rfl, ⟨Or.inr (Or.inl rfl), Or.inr (Or.inl ⟨rfl, (pj_tb7 (k := 92) (by decide +kernel)), by decide⟩)⟩⟩
theorem mo_196 : pj_okP 196 mt_196 := ⟨by decide, rfl, (pj_tb7 (k := 97) (by rfl)), (pj_tb1 (k := 17) (by decide +kernel)), by decide, by decide, by decide +kernel, by decide, rfl, ⟨Or.inl rfl, Or.inl ⟨rfl, (pj_tb7 (k := 96) (by decide +kernel)), (pj_tk (k := 91) (by decide +kernel)), by decide⟩⟩⟩
theorem mo_197 : pj_okP 197 mt_197 := ⟨by decide, rfl, (pj_tb7 (k := 101) (by rfl)), (pj_tb1 (k := 17) (by decide +kernel)), by decide, by decide, by decide +kernel, by decide, rfl, ⟨Or.inl rfl, Or.inl ⟨rfl, (pj_tb7 (k := 100) (by decide +kernel)), (pj_tk (k := 92) (by decide +kernel)), by decide⟩⟩⟩
theorem mo_198 : pj_okP 198 mt_198 := ⟨by decide, rfl, (pj_tb7 (k := 105) (by rfl)), (pj_tb1 (k := 17) (by decide +kernel)), by decide, by decide, by decide +kernel, by decide, rfl, ⟨Or.inl rfl, Or.inl ⟨rfl, (pj_tb7 (k := 104) (by decide +kernel)), (pj_tk (k := 93) (by decide +kernel)), by decide⟩⟩⟩
theorem mo_199 : pj_okP 199 mt_199 := ⟨by decide, rfl, (pj_tb7 (k := 109) (by rfl)), (pj_tb1 (k := 17) (by decide +kernel)), by decide, by decide, by decide +kernel, by decide, rfl, ⟨Or.inl rfl, Or.inl ⟨rfl, (pj_tb7 (k := 108) (by decide +kernel)), (pj_tk (k := 94) (by decide +kernel)), by decide⟩⟩⟩
theorem mo_200 : pj_okP 200 mt_200 := ⟨by decide, rfl, (pj_tb7 (k := 113) (by rfl)), (pj_tb1 (k := 17) (by decide +kernel)), by decide, by decide, by decide +kernel, by decide, rfl, ⟨Or.inr (Or.inl rfl), Or.inl ⟨rfl, (pj_tb7 (k := 111) (by decide +kernel)), (pj_tb7 (k := 112) (by decide +kernel)), by decide⟩⟩⟩
theorem mo_201 : pj_okP 201 mt_201 := ⟨by decide, rfl, (pj_tb7 (k := 117) (by rfl)), (pj_tb1 (k := 17) (by decide +kernel)), by decide, by decide, by decide +kernel, by decide, rfl, ⟨Or.inr (Or.inl rfl), Or.inl ⟨rfl, (pj_tb7 (k := 115) (by decide +kernel)), (pj_tb7 (k := 116) (by decide +kernel)), by decide⟩⟩⟩
theorem mo_202 : pj_okP 202 mt_202 := ⟨by decide, rfl, (pj_tb7 (k := 121) (by rfl)), (pj_tb1 (k := 17) (by decide +kernel)), by decide, by decide, by decide +kernel, by decide, rfl, ⟨Or.inr (Or.inr (Or.inr rfl)), Or.inl ⟨rfl, (pj_tb7 (k := 119) (by decide +kernel)), (pj_tb7 (k := 120) (by decide +kernel)), by decide⟩⟩⟩
theorem mo_203 : pj_okP 203 mt_203 := ⟨by decide, rfl, (pj_tb7 (k := 125) (by rfl)), (pj_tb1 (k := 17) (by decide +kernel)), by decide, by decide, by decide +kernel, by decide, rfl, ⟨Or.inr (Or.inl rfl), Or.inl ⟨rfl, (pj_tb7 (k := 124) (by decide +kernel)), (pj_tk (k := 95) (by decide +kernel)), by decide⟩⟩⟩
theorem mo_204 : pj_okP 204 mt_204 := ⟨by decide, rfl, (pj_tb7 (k := 129) (by rfl)), (pj_tb1 (k := 17) (by decide +kernel)), by decide, by decide, by decide +kernel, by decide, rfl, ⟨Or.inl rfl, Or.inl ⟨rfl, (pj_tb7 (k := 128) (by decide +kernel)), (pj_tk (k := 96) (by decide +kernel)), by decide⟩⟩⟩
theorem mo_205 : pj_okP 205 mt_205 := ⟨by decide, rfl, (pj_tb7 (k := 133) (by rfl)), (pj_tb1 (k := 17) (by decide +kernel)), by decide, by decide, by decide +kernel, by decide, rfl, ⟨Or.inr (Or.inl rfl), Or.inl ⟨rfl, (pj_tb7 (k := 131) (by decide +kernel)), (pj_tb7 (k := 132) (by decide +kernel)), by decide⟩⟩⟩
theorem mo_206 : pj_okP 206 mt_206 := ⟨by decide, rfl, (pj_tb7 (k := 137) (by rfl)), (pj_tb1 (k := 17) (by decide +kernel)), by decide, by decide, by decide +kernel, by decide, rfl, ⟨Or.inr (Or.inr (Or.inr rfl)), Or.inl ⟨rfl, (pj_tb7 (k := 136) (by decide +kernel)), (pj_tk (k := 97) (by decide +kernel)), by decide⟩⟩⟩
theorem mo_207 : pj_okP 207 mt_207 := ⟨by decide, rfl, (pj_tb7 (k := 140) (by rfl)), (pj_tb1 (k := 17) (by decide +kernel)), by decide, by decide, by decide +kernel, by decide, rfl, ⟨Or.inr (Or.inr (Or.inr rfl)), Or.inr (Or.inl ⟨rfl, (pj_tb7 (k := 139) (by decide +kernel)), by decide⟩)⟩⟩
theorem mo_208 : pj_okP 208 mt_208 := ⟨by decide, rfl, (pj_tb7 (k := 144) (by rfl)), (pj_tb1 (k := 17) (by decide +kernel)), by decide, by decide, by decide +kernel, by decide, rfl, ⟨Or.inr (Or.inr (Or.inr rfl)), Or.inl ⟨rfl, (pj_tb7 (k := 143) (by decide +kernel)), (pj_tk (k := 98) (by decide +kernel)), by decide⟩⟩⟩
theorem mo_209 : pj_okP 209 mt_209 := ⟨by decide, rfl, (pj_tb7 (k := 148) (by rfl)), (pj_tb1 (k := 17) (by decide +kernel)), by decide, by decide, by decide +kernel, by decide, rfl, ⟨Or.inr (Or.inl rfl), Or.inl ⟨rfl, (pj_tb7 (k := 147) (by decide +kernel)), (pj_tk (k := 99) (by decide +kernel)), by decide⟩⟩⟩
theorem mo_210 : pj_okP 210 mt_210 := ⟨by decide, rfl, (pj_tb7 (k := 152) (by rfl)), (pj_tb1 (k := 17) (by decide +kernel)), by decide, by decide, by decide +kernel, by decide, rfl, ⟨Or.inr (Or.inl rfl), Or.inl ⟨rfl, (pj_tb7 (k := 150) (by decide +kernel)), (pj_tb7 (k := 151) (by decide +kernel)), by decide⟩⟩⟩
theorem mo_211 : pj_okP 211 mt_211 := ⟨by decide, rfl, (pj_tb7 (k := 156) (by rfl)), (pj_tb1 (k := 17) (by decide +kernel)), by decide, by decide, by decide +kernel, by decide, rfl, ⟨Or.inr (Or.inr (Or.inr rfl)), Or.inl ⟨rfl, (pj_tb7 (k := 155) (by decide +kernel)), (pj_tk (k := 100) (by decide +kernel)), by decide⟩⟩⟩
theorem mo_212 : pj_okP 212 mt_212 := ⟨by decide, rfl, (pj_tb7 (k := 160) (by rfl)), (pj_tb1 (k := 17) (by decide +kernel)), by decide, by decide, by decide +kernel, by decide, rfl, ⟨Or.inr (Or.inr (Or.inr rfl)), Or.inl ⟨rfl, (pj_tb7 (k := 159) (by decide +kernel)), (pj_tk (k := 101) (by decide +kernel)), by decide⟩⟩⟩
theorem mo_213 : pj_okP 213 mt_213 := ⟨by decide, rfl, (pj_tb7 (k := 165) (by rfl)), (pj_tb1 (k := 17) (by decide +kernel)), by decide, by decide, by decide +kernel, by decide, rfl, ⟨Or.inr (Or.inl rfl), Or.inl ⟨rfl, (pj_tb7 (k := 163) (by decide +kernel)), (pj_tb7 (k := 164) (by decide +kernel)), by decide⟩⟩⟩
theorem mo_214 : pj_okP 214 mt_214 := ⟨by decide, rfl, (pj_tb7 (k := 169) (by rfl)), (pj_tb1 (k := 17) (by decide +kernel)), by decide, by decide, by decide +kernel, by decide, rfl, ⟨Or.inr (Or.inl rfl), Or.inl ⟨rfl, (pj_tb7 (k := 167) (by decide +kernel)), (pj_tb7 (k := 168) (by decide +kernel)), by decide⟩⟩⟩
theorem mo_215 : pj_okP 215 mt_215 := ⟨by decide, rfl, (pj_tb7 (k := 173) (by rfl)), (pj_tb1 (k := 17) (by decide +kernel)), by decide, by decide, by decide +kernel, by decide, rfl, ⟨Or.inr (Or.inr (Or.inl rfl)), Or.inl ⟨rfl, (pj_tb7 (k := 171) (by decide +kernel)), (pj_tb7 (k := 172) (by decide +kernel)), by decide⟩⟩⟩
theorem mo_216 : pj_okP 216 mt_216 := ⟨by decide, rfl, (pj_tb7 (k := 177) (by rfl)), (pj_tb1 (k := 17) (by decide +kernel)), by decide, by decide, by decide +kernel, by decide, rfl, ⟨Or.inr (Or.inr (Or.inl rfl)), Or.inl ⟨rfl, (pj_tb7 (k := 176) (by decide +kernel)), (pj_tk (k := 102) (by decide +kernel)), by decide⟩⟩⟩
theorem mo_217 : pj_okP 217 mt_217 := ⟨by decide, rfl, (pj_tb7 (k := 181) (by rfl)), (pj_tb1 (k := 17) (by decide +kernel)), by decide, by decide, by decide +kernel, by decide, rfl, ⟨Or.inr (Or.inr (Or.inl rfl)), Or.inl ⟨rfl, (pj_tb7 (k := 180) (by decide +kernel)), (pj_tk (k := 103) (by decide +kernel)), by decide⟩⟩⟩
theorem mo_218 : pj_okP 218 mt_218 := ⟨by decide, rfl, (pj_tb7 (k := 185) (by rfl)), (pj_tb1 (k := 17) (by decide +kernel)), by decide, by decide, by decide +kernel, by decide, rfl, ⟨Or.inr (Or.inr (Or.inr rfl)), Or.inl ⟨rfl, (pj_tb7 (k := 184) (by decide +kernel)), (pj_tk (k := 104) (by decide +kernel)), by decide⟩⟩⟩
theorem mo_219 : pj_okP 219 mt_219 := ⟨by decide, rfl, (pj_tb7 (k := 189) (by rfl)), (pj_tb1 (k := 17) (by decide +kernel)), by decide, by decide, by decide +kernel, by decide, rfl, ⟨Or.inr (Or.inr (Or.inl rfl)), Or.inl ⟨rfl, (pj_tb7 (k := 188) (by decide +kernel)), (pj_tk (k := 105) (by decide +kernel)), by decide⟩⟩⟩
theorem mo_220 : pj_okP 220 mt_220 := ⟨by decide, rfl, (pj_tb7 (k := 192) (by rfl)), (pj_tb1 (k := 17) (by decide +kernel)), by decide, by decide, by decide +kernel, by decide, rfl, ⟨Or.inr (Or.inr (Or.inl rfl)), Or.inr (Or.inl ⟨rfl, (pj_tb7 (k := 191) (by decide +kernel)), by decide⟩)⟩⟩
theorem mo_221 : pj_okP 221 mt_221 := ⟨by decide, rfl, (pj_tb7 (k := 195) (by rfl)), (pj_tb1 (k := 17) (by decide +kernel)), by decide, by decide, by decide +kernel, by decide, rfl, ⟨Or.inr (Or.inr (Or.inl rfl)), Or.inr (Or.inl ⟨rfl, (pj_tb7 (k := 194) (by decide +kernel)), by decide⟩)⟩⟩
theorem mo_222 : pj_okP 222 mt_222 := ⟨by decide, rfl, (pj_tb7 (k := 200) (by rfl)), (pj_tb1 (k := 17) (by decide +kernel)), by decide, by decide, by decide +kernel, by decide, rfl, ⟨Or.inr (Or.inr (Or.inl rfl)), Or.inr (Or.inl ⟨rfl, (pj_tb7 (k := 199) (by decide +kernel)), by decide⟩)⟩⟩
theorem mo_223 : pj_okP 223 mt_223 := ⟨by decide, rfl, (pj_tb7 (k := 205) (by rfl)), (pj_tb1 (k := 17) (by decide +kernel)), by decide, by decide, by decide +kernel, by decide, rfl, ⟨Or.inr (Or.inl rfl), Or.inl ⟨rfl, (pj_tb7 (k := 203) (by decide +kernel)), (pj_tb7 (k := 204) (by decide +kernel)), by decide⟩⟩⟩
theorem mo_224 : pj_okP 224 mt_224 := ⟨by decide, rfl, (pj_tb7 (k := 209) (by rfl)), (pj_tb1 (k := 17) (by decide +kernel)), by decide, by decide, by decide +kernel, by decide, rfl, ⟨Or.inr (Or.inr (Or.inr rfl)), Or.inl ⟨rfl, (pj_tb7 (k := 208) (by decide +kernel)), (pj_tk (k := 106) (by decide +kernel)), by decide⟩⟩⟩
theorem mo_225 : pj_okP 225 mt_225 := ⟨by decide, rfl, (pj_tb7 (k := 213) (by rfl)), (pj_tb1 (k := 17) (by decide +kernel)), by decide, by decide, by decide +kernel, by decide, rfl, ⟨Or.inl rfl, Or.inl ⟨rfl, (pj_tb7 (k := 212) (by decide +kernel)), (pj_tk (k := 107) (by decide +kernel)), by decide⟩⟩⟩
theorem mo_226 : pj_okP 226 mt_226 := ⟨by decide, rfl, (pj_tb7 (k := 217) (by rfl)), (pj_tb1 (k := 17) (by decide +kernel)), by decide, by decide, by decide +kernel, by decide, rfl, ⟨Or.inr (Or.inl rfl), Or.inl ⟨rfl, (pj_tb7 (k := 216) (by decide +kernel)), (pj_tk (k := 108) (by decide +kernel)), by decide⟩⟩⟩
theorem mo_227 : pj_okP 227 mt_227 := ⟨by decide, rfl, (pj_tb7 (k := 221) (by rfl)), (pj_tb1 (k := 17) (by decide +kernel)), by decide, by decide, by decide +kernel, by decide, rfl, ⟨Or.inl rfl, Or.inl ⟨rfl, (pj_tb7 (k := 220) (by decide +kernel)), (pj_tk (k := 109) (by decide +kernel)), by decide⟩⟩⟩
theorem mo_228 : pj_okP 228 mt_228 := ⟨by decide, rfl, (pj_tb7 (k := 226) (by rfl)), (pj_tb1 (k := 17) (by decide +kernel)), by decide, by decide, by decide +kernel, by decide, rfl, ⟨Or.inr (Or.inr (Or.inr rfl)), Or.inl ⟨rfl, (pj_tb7 (k := 225) (by decide +kernel)), (pj_tk (k := 110) (by decide +kernel)), by decide⟩⟩⟩
theorem mo_229 : pj_okP 229 mt_229 := ⟨by decide, rfl, (pj_tb7 (k := 230) (by rfl)), (pj_tb1 (k := 17) (by decide +kernel)), by decide, by decide, by decide +kernel, by decide, rfl, ⟨Or.inr (Or.inl rfl), Or.inl ⟨rfl, (pj_tb7 (k := 229) (by decide +kernel)), (pj_tk (k := 111) (by decide +kernel)), by decide⟩⟩⟩
theorem mo_230 : pj_okP 230 mt_230 := ⟨by decide, rfl, (pj_tb7 (k := 234) (by rfl)), (pj_tb1 (k := 17) (by decide +kernel)), by decide, by decide, by decide +kernel, by decide, rfl, ⟨Or.inl rfl, Or.inl ⟨rfl, (pj_tb7 (k := 233) (by decide +kernel)), (pj_tk (k := 112) (by decide +kernel)), by decide⟩⟩⟩
theorem mo_231 : pj_okP 231 mt_231 := ⟨by decide, rfl, (pj_tb7 (k := 238) (by rfl)), (pj_tb1 (k := 17) (by decide +kernel)), by decide, by decide, by decide +kernel, by decide, rfl, ⟨Or.inl rfl, Or.inl ⟨rfl, (pj_tb7 (k := 237) (by decide +kernel)), (pj_tk (k := 113) (by decide +kernel)), by decide⟩⟩⟩
theorem mo_232 : pj_okP 232 mt_232 := ⟨by decide, rfl, (pj_tb8 (k := 2) (by rfl)), (pj_tb1 (k := 17) (by decide +kernel)), by decide, by decide, by decide +kernel, by decide, rfl, ⟨Or.inr (Or.inl rfl), Or.inl ⟨rfl, (pj_tb8 (k := 0) (by decide +kernel)), (pj_tb8 (k := 1) (by decide +kernel)), by decide⟩⟩⟩
theorem mo_233 : pj_okP 233 mt_233 := ⟨by decide, rfl, (pj_tb8 (k := 6) (by rfl)), (pj_tb1 (k := 17) (by decide +kernel)), by decide, by decide, by decide +kernel, by decide, rfl, ⟨Or.inr (Or.inl rfl), Or.inl ⟨rfl, (pj_tb8 (k := 4) (by decide +kernel)), (pj_tb8 (k := 5) (by decide +kernel)), by decide⟩⟩⟩
theorem mo_234 : pj_okP 234 mt_234 := ⟨by decide, rfl, (pj_tb8 (k := 10) (by rfl)), (pj_tb1 (k := 17) (by decide +kernel)), by decide, by decide, by decide +kernel, by decide, rfl, ⟨Or.inr (Or.inr (Or.inr rfl)), Or.inl ⟨rfl, (pj_tb8 (k := 9) (by decide +kernel)), (pj_tk (k := 114) (by decide +kernel)), by decide⟩⟩⟩
theorem mo_235 : pj_okP 235 mt_235 := ⟨by decide, rfl, (pj_tb8 (k := 14) (by rfl)), (pj_tb1 (k := 17) (by decide +kernel)), by decide, by decide, by decide +kernel, by decide, rfl, ⟨Or.inr (Or.inl rfl), Or.inl ⟨rfl, (pj_tb8 (k := 12) (by decide +kernel)), (pj_tb8 (k := 13) (by decide +kernel)), by decide⟩⟩⟩
theorem mo_236 : pj_okP 236 mt_236 := ⟨by decide, rfl, (pj_tb8 (k := 17) (by rfl)), (pj_tb1 (k := 17) (by decide +kernel)), by decide, by decide, by decide +kernel, by decide, rfl, ⟨Or.inr (Or.inl rfl), Or.inr (Or.inl ⟨rfl, (pj_tb8 (k := 16) (by decide +kernel)), by decide⟩)⟩⟩
theorem mo_237 : pj_okP 237 mt_237 := ⟨by decide, rfl, (pj_tb8 (k := 21) (by rfl)), (pj_tb1 (k := 17) (by decide +kernel)), by decide, by decide, by decide +kernel, by decide, rfl, ⟨Or.inr (Or.inl rfl), Or.inl ⟨rfl, (pj_tb8 (k := 20) (by decide +kernel)), (pj_tk (k := 115) (by decide +kernel)), by decide⟩⟩⟩
theorem mo_238 : pj_okP 238 mt_238 := ⟨by decide, rfl, (pj_tb8 (k := 25) (by rfl)), (pj_tb1 (k := 17) (by decide +kernel)), by decide, by decide, by decide +kernel, by decide, rfl, ⟨Or.inr (Or.inl rfl), Or.inl ⟨rfl, (pj_tb8 (k := 23) (by decide +kernel)), (pj_tb8 (k := 24) (by decide +kernel)), by decide⟩⟩⟩
theorem mo_239 : pj_okP 239 mt_239 := ⟨by decide, rfl, (pj_tb8 (k := 29) (by rfl)), (pj_tb1 (k := 17) (by decide +kernel)), by decide, by decide, by decide +kernel, by decide, rfl, ⟨Or.inr (Or.inl rfl), Or.inl ⟨rfl, (pj_tb8 (k := 27) (by decide +kernel)), (pj_tb8 (k := 28) (by decide +kernel)), by decide⟩⟩⟩
theorem mo_240 : pj_okP 240 mt_240 := ⟨by decide, rfl, (pj_tb8 (k := 33) (by rfl)), (pj_tb1 (k := 17) (by decide +kernel)), by decide, by decide, by decide +kernel, by decide, rfl, ⟨Or.inr (Or.inr (Or.inr rfl)), Or.inl ⟨rfl, (pj_tb8 (k := 32) (by decide +kernel)), (pj_tk (k := 116) (by decide +kernel)), by decide⟩⟩⟩
theorem mo_241 : pj_okP 241 mt_241 := ⟨by decide, rfl, (pj_tb8 (k := 37) (by rfl)), (pj_tb1 (k := 17) (by decide +kernel)), by decide, by decide, by decide +kernel, by decide, rfl, ⟨Or.inl rfl, Or.inl ⟨rfl, (pj_tb8 (k := 36) (by decide +kernel)), (pj_tk (k := 117) (by decide +kernel)), by decide⟩⟩⟩
theorem mo_242 : pj_okP 242 mt_242 := ⟨by decide, rfl, (pj_tb8 (k := 41) (by rfl)), (pj_tb1 (k := 17) (by decide +kernel)), by decide, by decide, by decide +kernel, by decide, rfl, ⟨Or.inr (Or.inl rfl), Or.inl ⟨rfl, (pj_tb8 (k := 39) (by decide +kernel)), (pj_tb8 (k := 40) (by decide +kernel)), by decide⟩⟩⟩
theorem mo_243 : pj_okP 243 mt_243 := ⟨by decide, rfl, (pj_tb8 (k := 45) (by rfl)), (pj_tb1 (k := 17) (by decide +kernel)), by decide, by decide, by decide +kernel, by decide, rfl, ⟨Or.inr (Or.inl rfl), Or.inl ⟨rfl, (pj_tb8 (k := 43) (by decide +kernel)), (pj_tb8 (k := 44) (by decide +kernel)), by decide⟩⟩⟩
theorem mo_244 : pj_okP 244 mt_244 := ⟨by decide, rfl, (pj_tb8 (k := 49) (by rfl)), (pj_tb1 (k := 17) (by decide +kernel)), by decide, by decide, by decide +kernel, by decide, rfl, ⟨Or.inr (Or.inl rfl), Or.inl ⟨rfl, (pj_tb8 (k := 47) (by decide +kernel)), (pj_tb8 (k := 48) (by decide +kernel)), by decide⟩⟩⟩
theorem mo_245 : pj_okP 245 mt_245 := ⟨by decide, rfl, (pj_tb8 (k := 53) (by rfl)), (pj_tb1 (k := 17) (by decide +kernel)), by decide, by decide, by decide +kernel, by decide, rfl, ⟨Or.inr (Or.inl rfl), Or.inl ⟨rfl, (pj_tb8 (k := 51) (by decide +kernel)), (pj_tb8 (k := 52) (by decide +kernel)), by decide⟩⟩⟩
theorem mo_246 : pj_okP 246 mt_246 := ⟨by decide, rfl, (pj_tb8 (k := 57) (by rfl)), (pj_tb1 (k := 17) (by decide +kernel)), by decide, by decide, by decide +kernel, by decide, rfl, ⟨Or.inr (Or.inl rfl), Or.inl ⟨rfl, (pj_tb8 (k := 56) (by decide +kernel)), (pj_tk (k := 118) (by decide +kernel)), by decide⟩⟩⟩
theorem mo_247 : pj_okP 247 mt_247 := ⟨by decide, rfl, (pj_tb8 (k := 61) (by rfl)), (pj_tb1 (k := 17) (by decide +kernel)), by decide, by decide, by decide +kernel, by decide, rfl, ⟨Or.inr (Or.inl rfl), Or.inl ⟨rfl, (pj_tb8 (k := 59) (by decide +kernel)), (pj_tb8 (k := 60) (by decide +kernel)), by decide⟩⟩⟩
theorem mo_248 : pj_okP 248 mt_248 := ⟨by decide, rfl, (pj_tb8 (k := 66) (by rfl)), (pj_tb1 (k := 17) (by decide +kernel)), by decide, by decide, by decide +kernel, by decide, rfl, ⟨Or.inr (Or.inl rfl), Or.inl ⟨rfl, (pj_tb8 (k := 65) (by decide +kernel)), (pj_tk (k := 119) (by decide +kernel)), by decide⟩⟩⟩
theorem mo_249 : pj_okP 249 mt_249 := ⟨by decide, rfl, (pj_tb8 (k := 70) (by rfl)), (pj_tb1 (k := 17) (by decide +kernel)), by decide, by decide, by decide +kernel, by decide, rfl, ⟨Or.inr (Or.inl rfl), Or.inl ⟨rfl, (pj_tb8 (k := 68) (by decide +kernel)), (pj_tb8 (k := 69) (by decide +kernel)), by decide⟩⟩⟩
theorem mo_250 : pj_okP 250 mt_250 := ⟨by decide, rfl, (pj_tb8 (k := 74) (by rfl)), (pj_tb1 (k := 17) (by decide +kernel)), by decide, by decide, by decide +kernel, by decide, rfl, ⟨Or.inl rfl, Or.inl ⟨rfl, (pj_tb8 (k := 73) (by decide +kernel)), (pj_tk (k := 120) (by decide +kernel)), by decide⟩⟩⟩
theorem mo_251 : pj_okP 251 mt_251 := ⟨by decide, rfl, (pj_tb8 (k := 78) (by rfl)), (pj_tb1 (k := 17) (by decide +kernel)), by decide, by decide, by decide +kernel, by decide, rfl, ⟨Or.inr (Or.inl rfl), Or.inl ⟨rfl, (pj_tb8 (k := 76) (by decide +kernel)), (pj_tb8 (k := 77) (by decide +kernel)), by decide⟩⟩⟩
theorem mo_252 : pj_okP 252 mt_252 := ⟨by decide, rfl, (pj_tb8 (k := 82) (by rfl)), (pj_tb1 (k := 17) (by decide +kernel)), by decide, by decide, by decide +kernel, by decide, rfl, ⟨Or.inr (Or.inl rfl), Or.inl ⟨rfl, (pj_tb8 (k := 81) (by decide +kernel)), (pj_tk (k := 121) (by decide +kernel)), by decide⟩⟩⟩
theorem mo_253 : pj_okP 253 mt_253 := ⟨by decide, rfl, (pj_tb8 (k := 90) (by rfl)), (pj_tb1 (k := 17) (by decide +kernel)), by decide, by decide, by decide +kernel, by decide, rfl, ⟨Or.inr (Or.inl rfl), Or.inl ⟨rfl, (pj_tb8 (k := 89) (by decide +kernel)), (pj_tk (k := 122) (by decide +kernel)), by decide⟩⟩⟩
theorem mo_254 : pj_okP 254 mt_254 := ⟨by decide, rfl, (pj_tb8 (k := 94) (by rfl)), (pj_tb1 (k := 17) (by decide +kernel)), by decide, by decide, by decide +kernel, by decide, rfl, ⟨Or.inr (Or.inr (Or.inr rfl)), Or.inl ⟨rfl, (pj_tb8 (k := 92) (by decide +kernel)), (pj_tb8 (k := 93) (by decide +kernel)), by decide⟩⟩⟩
theorem mo_255 : pj_okP 255 mt_255 := ⟨by decide, rfl, (pj_tb8 (k := 98) (by rfl)), (pj_tb1 (k := 17) (by decide +kernel)), by decide, by decide, by decide +kernel, by decide, rfl, ⟨Or.inr (Or.inr (Or.inr rfl)), Or.inl ⟨rfl, (pj_tb8 (k := 96) (by decide +kernel)), (pj_tb8 (k := 97) (by decide +kernel)), by decide⟩⟩⟩
theorem mo_256 : pj_okP 256 mt_256 := ⟨by decide, rfl, (pj_tb8 (k := 102) (by rfl)), (pj_tb1 (k := 17) (by decide +kernel)), by decide, by decide, by decide +kernel, by decide, rfl, ⟨Or.inr (Or.inr (Or.inr rfl)), Or.inl ⟨rfl, (pj_tb8 (k := 100) (by decide +kernel)), (pj_tb8 (k := 101) (by decide +kernel)), by decide⟩⟩⟩
theorem mo_257 : pj_okP 257 mt_257 := ⟨by decide, rfl, (pj_tb8 (k := 106) (by rfl)), (pj_tb1 (k := 17) (by decide +kernel)), by decide, by decide, by decide +kernel, by decide, rfl, ⟨Or.inr (Or.inr (Or.inr rfl)), Or.inl ⟨rfl, (pj_tb8 (k := 104) (by decide +kernel)), (pj_tb8 (k := 105) (by decide +kernel)), by decide⟩⟩⟩
theorem mo_258 : pj_okP 258 mt_258 := ⟨by decide, rfl, (pj_tb8 (k := 110) (by rfl)), (pj_tb1 (k := 17) (by decide +kernel)), by decide, by decide, by decide +kernel, by decide, rfl, ⟨Or.inr (Or.inl rfl), Or.inl ⟨rfl, (pj_tb8 (k := 108) (by decide +kernel)), (pj_tb8 (k := 109) (by decide +kernel)), by decide⟩⟩⟩
theorem mo_259 : pj_okP 259 mt_259 := ⟨by decide, rfl, (pj_tb8 (k := 114) (by rfl)), (pj_tb1 (k := 17) (by decide +kernel)), by decide, by decide, by decide +kernel, by decide, rfl, ⟨Or.inr (Or.inl rfl), Or.inl ⟨rfl, (pj_tb8 (k := 112) (by decide +kernel)), (pj_tb8 (k := 113) (by decide +kernel)), by decide⟩⟩⟩
theorem mo_260 : pj_okP 260 mt_260 := ⟨by decide, rfl, (pj_tb8 (k := 118) (by rfl)), (pj_tb1 (k := 17) (by decide +kernel)), by decide, by decide, by decide +kernel, by decide, rfl, ⟨Or.inl rfl, Or.inl ⟨rfl, (pj_tb8 (k := 117) (by decide +kernel)), (pj_tk (k := 123) (by decide +kernel)), by decide⟩⟩⟩
theorem mo_261 : pj_okP 261 mt_261 := ⟨by decide, rfl, (pj_tb8 (k := 122) (by rfl)), (pj_tb1 (k := 17) (by decide +kernel)), by decide, by decide, by decide +kernel, by decide, rfl, ⟨Or.inr (Or.inl rfl), Or.inl ⟨rfl, (pj_tb8 (k := 120) (by decide +kernel)), (pj_tb8 (k := 121) (by decide +kernel)), by decide⟩⟩⟩
theorem mo_262 : pj_okP 262 mt_262 := ⟨by decide, rfl, (pj_tb8 (k := 126) (by rfl)), (pj_tb1 (k := 17) (by decide +kernel)), by decide, by decide, by decide +kernel, by decide, rfl, ⟨Or.inr (Or.inr (Or.inr rfl)), Or.inl ⟨rfl, (pj_tb8 (k := 124) (by decide +kernel)), (pj_tb8 (k := 125) (by decide +kernel)), by decide⟩⟩⟩
theorem mo_263 : pj_okP 263 mt_263 := ⟨by decide, rfl, (pj_tb8 (k := 130) (by rfl)), (pj_tb1 (k := 17) (by decide +kernel)), by decide, by decide, by decide +kernel, by decide, rfl, ⟨Or.inr (Or.inr (Or.inr rfl)), Or.inl ⟨rfl, (pj_tb8 (k := 129) (by decide +kernel)), (pj_tk (k := 124) (by decide +kernel)), by decide⟩⟩⟩
theorem mo_264 : pj_okP 264 mt_264 := ⟨by decide, rfl, (pj_tb8 (k := 134) (by rfl)), (pj_tb1 (k := 17) (by decide +kernel)), by decide, by decide, by decide +kernel, by decide, rfl, ⟨Or.inr (Or.inr (Or.inr rfl)), Or.inl ⟨rfl, (pj_tb8 (k := 133) (by decide +kernel)), (pj_tk (k := 125) (by decide +kernel)), by decide⟩⟩⟩
theorem mo_265 : pj_okP 265 mt_265 := ⟨by decide, rfl, (pj_tb4 (k := 36) (by rfl)), (pj_tb1 (k := 19) (by decide +kernel)), by decide, by decide, by decide +kernel, by decide, rfl, ⟨Or.inr (Or.inl rfl), Or.inr (Or.inl ⟨rfl, (pj_tb4 (k := 35) (by decide +kernel)), by decide⟩)⟩⟩
theorem pj_okAll {k : Nat} {t : pj_T} (h0 : k ≠ 0) (h : tm k = some t) : pj_okP k t := by
  have hk : k < 266 := by
    rcases Nat.lt_or_ge k 266 with q | q
    · exact q
    · exfalso
      unfold tm at h
      rw [show Nat.blt k 266 = false by rw [← Bool.not_eq_true, Nat.blt_eq]; omega] at h
      cases h
  by_cases h1_266 : k < 133
  · by_cases h1_133 : k < 67
    · by_cases h1_67 : k < 34
      · by_cases h1_34 : k < 17
        · by_cases h1_17 : k < 9
          · by_cases h1_9 : k < 5
            · by_cases h1_5 : k < 3
              · by_cases h1_3 : k < 2
                · obtain rfl : k = 1 := by omega
                  obtain rfl : mt_1 = t := Option.some.inj h
                  exact mo_1
                · obtain rfl : k = 2 := by omega
                  obtain rfl : mt_2 = t := Option.some.inj h
                  exact mo_2
              · by_cases h3_5 : k < 4
                · obtain rfl : k = 3 := by omega
                  obtain rfl : mt_3 = t := Option.some.inj h
                  exact mo_3
                · obtain rfl : k = 4 := by omega
                  obtain rfl : mt_4 = t := Option.some.inj h
                  exact mo_4
            · by_cases h5_9 : k < 7
              · by_cases h5_7 : k < 6
                · obtain rfl : k = 5 := by omega
                  obtain rfl : mt_5 = t := Option.some.inj h
                  exact mo_5
                · obtain rfl : k = 6 := by omega
                  obtain rfl : mt_6 = t := Option.some.inj h
                  exact mo_6
              · by_cases h7_9 : k < 8
                · obtain rfl : k = 7 := by omega
                  obtain rfl : mt_7 = t := Option.some.inj h
                  exact mo_7
                · obtain rfl : k = 8 := by omega
                  obtain rfl : mt_8 = t := Option.some.inj h
                  exact mo_8
          · by_cases h9_17 : k < 13
            · by_cases h9_13 : k < 11
              · by_cases h9_11 : k < 10
                · obtain rfl : k = 9 := by omega
                  obtain rfl : mt_9 = t := Option.some.inj h
                  exact mo_9
                · obtain rfl : k = 10 := by omega
                  obtain rfl : mt_10 = t := Option.some.inj h
                  exact mo_10
              · by_cases h11_13 : k < 12
                · obtain rfl : k = 11 := by omega
                  obtain rfl : mt_11 = t := Option.some.inj h
                  exact mo_11
                · obtain rfl : k = 12 := by omega
                  obtain rfl : mt_12 = t := Option.some.inj h
                  exact mo_12
            · by_cases h13_17 : k < 15
              · by_cases h13_15 : k < 14
                · obtain rfl : k = 13 := by omega
                  obtain rfl : mt_13 = t := Option.some.inj h
                  exact mo_13
                · obtain rfl : k = 14 := by omega
                  obtain rfl : mt_14 = t := Option.some.inj h
                  exact mo_14
              · by_cases h15_17 : k < 16
                · obtain rfl : k = 15 := by omega
                  obtain rfl : mt_15 = t := Option.some.inj h
                  exact mo_15
                · obtain rfl : k = 16 := by omega
                  obtain rfl : mt_16 = t := Option.some.inj h
                  exact mo_16
        · by_cases h17_34 : k < 25
          · by_cases h17_25 : k < 21
            · by_cases h17_21 : k < 19
              · by_cases h17_19 : k < 18
                · obtain rfl : k = 17 := by omega
                  obtain rfl : mt_17 = t := Option.some.inj h
                  exact mo_17
                · obtain rfl : k = 18 := by omega
                  obtain rfl : mt_18 = t := Option.some.inj h
                  exact mo_18
              · by_cases h19_21 : k < 20
                · obtain rfl : k = 19 := by omega
                  obtain rfl : mt_19 = t := Option.some.inj h
                  exact mo_19
                · obtain rfl : k = 20 := by omega
                  obtain rfl : mt_20 = t := Option.some.inj h
                  exact mo_20
            · by_cases h21_25 : k < 23
              · by_cases h21_23 : k < 22
                · obtain rfl : k = 21 := by omega
                  obtain rfl : mt_21 = t := Option.some.inj h
                  exact mo_21
                · obtain rfl : k = 22 := by omega
                  obtain rfl : mt_22 = t := Option.some.inj h
                  exact mo_22
              · by_cases h23_25 : k < 24
                · obtain rfl : k = 23 := by omega
                  obtain rfl : mt_23 = t := Option.some.inj h
                  exact mo_23
                · obtain rfl : k = 24 := by omega
                  obtain rfl : mt_24 = t := Option.some.inj h
                  exact mo_24
          · by_cases h25_34 : k < 29
            · by_cases h25_29 : k < 27
              · by_cases h25_27 : k < 26
                · obtain rfl : k = 25 := by omega
                  obtain rfl : mt_25 = t := Option.some.inj h
                  exact mo_25
                · obtain rfl : k = 26 := by omega
                  obtain rfl : mt_26 = t := Option.some.inj h
                  exact mo_26
              · by_cases h27_29 : k < 28
                · obtain rfl : k = 27 := by omega
                  obtain rfl : mt_27 = t := Option.some.inj h
                  exact mo_27
                · obtain rfl : k = 28 := by omega
                  obtain rfl : mt_28 = t := Option.some.inj h
                  exact mo_28
            · by_cases h29_34 : k < 31
              · by_cases h29_31 : k < 30
                · obtain rfl : k = 29 := by omega
                  obtain rfl : mt_29 = t := Option.some.inj h
                  exact mo_29
                · obtain rfl : k = 30 := by omega
                  obtain rfl : mt_30 = t := Option.some.inj h
                  exact mo_30
              · by_cases h31_34 : k < 32
                · obtain rfl : k = 31 := by omega
                  obtain rfl : mt_31 = t := Option.some.inj h
                  exact mo_31
                · by_cases h32_34 : k < 33
                  · obtain rfl : k = 32 := by omega
                    obtain rfl : mt_32 = t := Option.some.inj h
                    exact mo_32
                  · obtain rfl : k = 33 := by omega
                    obtain rfl : mt_33 = t := Option.some.inj h
                    exact mo_33
      · by_cases h34_67 : k < 50
        · by_cases h34_50 : k < 42
          · by_cases h34_42 : k < 38
            · by_cases h34_38 : k < 36
              · by_cases h34_36 : k < 35
                · obtain rfl : k = 34 := by omega
                  obtain rfl : mt_34 = t := Option.some.inj h
                  exact mo_34
                · obtain rfl : k = 35 := by omega
                  obtain rfl : mt_35 = t := Option.some.inj h
                  exact mo_35
              · by_cases h36_38 : k < 37
                · obtain rfl : k = 36 := by omega
                  obtain rfl : mt_36 = t := Option.some.inj h
                  exact mo_36
                · obtain rfl : k = 37 := by omega
                  obtain rfl : mt_37 = t := Option.some.inj h
                  exact mo_37
            · by_cases h38_42 : k < 40
              · by_cases h38_40 : k < 39
                · obtain rfl : k = 38 := by omega
                  obtain rfl : mt_38 = t := Option.some.inj h
                  exact mo_38
                · obtain rfl : k = 39 := by omega
                  obtain rfl : mt_39 = t := Option.some.inj h
                  exact mo_39
              · by_cases h40_42 : k < 41
                · obtain rfl : k = 40 := by omega
                  obtain rfl : mt_40 = t := Option.some.inj h
                  exact mo_40
                · obtain rfl : k = 41 := by omega
                  obtain rfl : mt_41 = t := Option.some.inj h
                  exact mo_41
          · by_cases h42_50 : k < 46
            · by_cases h42_46 : k < 44
              · by_cases h42_44 : k < 43
                · obtain rfl : k = 42 := by omega
                  obtain rfl : mt_42 = t := Option.some.inj h
                  exact mo_42
                · obtain rfl : k = 43 := by omega
                  obtain rfl : mt_43 = t := Option.some.inj h
                  exact mo_43
              · by_cases h44_46 : k < 45
                · obtain rfl : k = 44 := by omega
                  obtain rfl : mt_44 = t := Option.some.inj h
                  exact mo_44
                · obtain rfl : k = 45 := by omega
                  obtain rfl : mt_45 = t := Option.some.inj h
                  exact mo_45
            · by_cases h46_50 : k < 48
              · by_cases h46_48 : k < 47
                · obtain rfl : k = 46 := by omega
                  obtain rfl : mt_46 = t := Option.some.inj h
                  exact mo_46
                · obtain rfl : k = 47 := by omega
                  obtain rfl : mt_47 = t := Option.some.inj h
                  exact mo_47
              · by_cases h48_50 : k < 49
                · obtain rfl : k = 48 := by omega
                  obtain rfl : mt_48 = t := Option.some.inj h
                  exact mo_48
                · obtain rfl : k = 49 := by omega
                  obtain rfl : mt_49 = t := Option.some.inj h
                  exact mo_49
        · by_cases h50_67 : k < 58
          · by_cases h50_58 : k < 54
            · by_cases h50_54 : k < 52
              · by_cases h50_52 : k < 51
                · obtain rfl : k = 50 := by omega
                  obtain rfl : mt_50 = t := Option.some.inj h
                  exact mo_50
                · obtain rfl : k = 51 := by omega
                  obtain rfl : mt_51 = t := Option.some.inj h
                  exact mo_51
              · by_cases h52_54 : k < 53
                · obtain rfl : k = 52 := by omega
                  obtain rfl : mt_52 = t := Option.some.inj h
                  exact mo_52
                · obtain rfl : k = 53 := by omega
                  obtain rfl : mt_53 = t := Option.some.inj h
                  exact mo_53
            · by_cases h54_58 : k < 56
              · by_cases h54_56 : k < 55
                · obtain rfl : k = 54 := by omega
                  obtain rfl : mt_54 = t := Option.some.inj h
                  exact mo_54
                · obtain rfl : k = 55 := by omega
                  obtain rfl : mt_55 = t := Option.some.inj h
                  exact mo_55
              · by_cases h56_58 : k < 57
                · obtain rfl : k = 56 := by omega
                  obtain rfl : mt_56 = t := Option.some.inj h
                  exact mo_56
                · obtain rfl : k = 57 := by omega
                  obtain rfl : mt_57 = t := Option.some.inj h
                  exact mo_57
          · by_cases h58_67 : k < 62
            · by_cases h58_62 : k < 60
              · by_cases h58_60 : k < 59
                · obtain rfl : k = 58 := by omega
                  obtain rfl : mt_58 = t := Option.some.inj h
                  exact mo_58
                · obtain rfl : k = 59 := by omega
                  obtain rfl : mt_59 = t := Option.some.inj h
                  exact mo_59
              · by_cases h60_62 : k < 61
                · obtain rfl : k = 60 := by omega
                  obtain rfl : mt_60 = t := Option.some.inj h
                  exact mo_60
                · obtain rfl : k = 61 := by omega
                  obtain rfl : mt_61 = t := Option.some.inj h
                  exact mo_61
            · by_cases h62_67 : k < 64
              · by_cases h62_64 : k < 63
                · obtain rfl : k = 62 := by omega
                  obtain rfl : mt_62 = t := Option.some.inj h
                  exact mo_62
                · obtain rfl : k = 63 := by omega
                  obtain rfl : mt_63 = t := Option.some.inj h
                  exact mo_63
              · by_cases h64_67 : k < 65
                · obtain rfl : k = 64 := by omega
                  obtain rfl : mt_64 = t := Option.some.inj h
                  exact mo_64
                · by_cases h65_67 : k < 66
                  · obtain rfl : k = 65 := by omega
                    obtain rfl : mt_65 = t := Option.some.inj h
                    exact mo_65
                  · obtain rfl : k = 66 := by omega
                    obtain rfl : mt_66 = t := Option.some.inj h
                    exact mo_66
    · by_cases h67_133 : k < 100
      · by_cases h67_100 : k < 83
        · by_cases h67_83 : k < 75
          · by_cases h67_75 : k < 71
            · by_cases h67_71 : k < 69
              · by_cases h67_69 : k < 68
                · obtain rfl : k = 67 := by omega
                  obtain rfl : mt_67 = t := Option.some.inj h
                  exact mo_67
                · obtain rfl : k = 68 := by omega
                  obtain rfl : mt_68 = t := Option.some.inj h
                  exact mo_68
              · by_cases h69_71 : k < 70
                · obtain rfl : k = 69 := by omega
                  obtain rfl : mt_69 = t := Option.some.inj h
                  exact mo_69
                · obtain rfl : k = 70 := by omega
                  obtain rfl : mt_70 = t := Option.some.inj h
                  exact mo_70
            · by_cases h71_75 : k < 73
              · by_cases h71_73 : k < 72
                · obtain rfl : k = 71 := by omega
                  obtain rfl : mt_71 = t := Option.some.inj h
                  exact mo_71
                · obtain rfl : k = 72 := by omega
                  obtain rfl : mt_72 = t := Option.some.inj h
                  exact mo_72
              · by_cases h73_75 : k < 74
                · obtain rfl : k = 73 := by omega
                  obtain rfl : mt_73 = t := Option.some.inj h
                  exact mo_73
                · obtain rfl : k = 74 := by omega
                  obtain rfl : mt_74 = t := Option.some.inj h
                  exact mo_74
          · by_cases h75_83 : k < 79
            · by_cases h75_79 : k < 77
              · by_cases h75_77 : k < 76
                · obtain rfl : k = 75 := by omega
                  obtain rfl : mt_75 = t := Option.some.inj h
                  exact mo_75
                · obtain rfl : k = 76 := by omega
                  obtain rfl : mt_76 = t := Option.some.inj h
                  exact mo_76
              · by_cases h77_79 : k < 78
                · obtain rfl : k = 77 := by omega
                  obtain rfl : mt_77 = t := Option.some.inj h
                  exact mo_77
                · obtain rfl : k = 78 := by omega
                  obtain rfl : mt_78 = t := Option.some.inj h
                  exact mo_78
            · by_cases h79_83 : k < 81
              · by_cases h79_81 : k < 80
                · obtain rfl : k = 79 := by omega
                  obtain rfl : mt_79 = t := Option.some.inj h
                  exact mo_79
                · obtain rfl : k = 80 := by omega
                  obtain rfl : mt_80 = t := Option.some.inj h
                  exact mo_80
              · by_cases h81_83 : k < 82
                · obtain rfl : k = 81 := by omega
                  obtain rfl : mt_81 = t := Option.some.inj h
                  exact mo_81
                · obtain rfl : k = 82 := by omega
                  obtain rfl : mt_82 = t := Option.some.inj h
                  exact mo_82
        · by_cases h83_100 : k < 91
          · by_cases h83_91 : k < 87
            · by_cases h83_87 : k < 85
              · by_cases h83_85 : k < 84
                · obtain rfl : k = 83 := by omega
                  obtain rfl : mt_83 = t := Option.some.inj h
                  exact mo_83
                · obtain rfl : k = 84 := by omega
                  obtain rfl : mt_84 = t := Option.some.inj h
                  exact mo_84
              · by_cases h85_87 : k < 86
                · obtain rfl : k = 85 := by omega
                  obtain rfl : mt_85 = t := Option.some.inj h
                  exact mo_85
                · obtain rfl : k = 86 := by omega
                  obtain rfl : mt_86 = t := Option.some.inj h
                  exact mo_86
            · by_cases h87_91 : k < 89
              · by_cases h87_89 : k < 88
                · obtain rfl : k = 87 := by omega
                  obtain rfl : mt_87 = t := Option.some.inj h
                  exact mo_87
                · obtain rfl : k = 88 := by omega
                  obtain rfl : mt_88 = t := Option.some.inj h
                  exact mo_88
              · by_cases h89_91 : k < 90
                · obtain rfl : k = 89 := by omega
                  obtain rfl : mt_89 = t := Option.some.inj h
                  exact mo_89
                · obtain rfl : k = 90 := by omega
                  obtain rfl : mt_90 = t := Option.some.inj h
                  exact mo_90
          · by_cases h91_100 : k < 95
            · by_cases h91_95 : k < 93
              · by_cases h91_93 : k < 92
                · obtain rfl : k = 91 := by omega
                  obtain rfl : mt_91 = t := Option.some.inj h
                  exact mo_91
                · obtain rfl : k = 92 := by omega
                  obtain rfl : mt_92 = t := Option.some.inj h
                  exact mo_92
              · by_cases h93_95 : k < 94
                · obtain rfl : k = 93 := by omega
                  obtain rfl : mt_93 = t := Option.some.inj h
                  exact mo_93
                · obtain rfl : k = 94 := by omega
                  obtain rfl : mt_94 = t := Option.some.inj h
                  exact mo_94
            · by_cases h95_100 : k < 97
              · by_cases h95_97 : k < 96
                · obtain rfl : k = 95 := by omega
                  obtain rfl : mt_95 = t := Option.some.inj h
                  exact mo_95
                · obtain rfl : k = 96 := by omega
                  obtain rfl : mt_96 = t := Option.some.inj h
                  exact mo_96
              · by_cases h97_100 : k < 98
                · obtain rfl : k = 97 := by omega
                  obtain rfl : mt_97 = t := Option.some.inj h
                  exact mo_97
                · by_cases h98_100 : k < 99
                  · obtain rfl : k = 98 := by omega
                    obtain rfl : mt_98 = t := Option.some.inj h
                    exact mo_98
                  · obtain rfl : k = 99 := by omega
                    obtain rfl : mt_99 = t := Option.some.inj h
                    exact mo_99
      · by_cases h100_133 : k < 116
        · by_cases h100_116 : k < 108
          · by_cases h100_108 : k < 104
            · by_cases h100_104 : k < 102
              · by_cases h100_102 : k < 101
                · obtain rfl : k = 100 := by omega
                  obtain rfl : mt_100 = t := Option.some.inj h
                  exact mo_100
                · obtain rfl : k = 101 := by omega
                  obtain rfl : mt_101 = t := Option.some.inj h
                  exact mo_101
              · by_cases h102_104 : k < 103
                · obtain rfl : k = 102 := by omega
                  obtain rfl : mt_102 = t := Option.some.inj h
                  exact mo_102
                · obtain rfl : k = 103 := by omega
                  obtain rfl : mt_103 = t := Option.some.inj h
                  exact mo_103
            · by_cases h104_108 : k < 106
              · by_cases h104_106 : k < 105
                · obtain rfl : k = 104 := by omega
                  obtain rfl : mt_104 = t := Option.some.inj h
                  exact mo_104
                · obtain rfl : k = 105 := by omega
                  obtain rfl : mt_105 = t := Option.some.inj h
                  exact mo_105
              · by_cases h106_108 : k < 107
                · obtain rfl : k = 106 := by omega
                  obtain rfl : mt_106 = t := Option.some.inj h
                  exact mo_106
                · obtain rfl : k = 107 := by omega
                  obtain rfl : mt_107 = t := Option.some.inj h
                  exact mo_107
          · by_cases h108_116 : k < 112
            · by_cases h108_112 : k < 110
              · by_cases h108_110 : k < 109
                · obtain rfl : k = 108 := by omega
                  obtain rfl : mt_108 = t := Option.some.inj h
                  exact mo_108
                · obtain rfl : k = 109 := by omega
                  obtain rfl : mt_109 = t := Option.some.inj h
                  exact mo_109
              · by_cases h110_112 : k < 111
                · obtain rfl : k = 110 := by omega
                  obtain rfl : mt_110 = t := Option.some.inj h
                  exact mo_110
                · obtain rfl : k = 111 := by omega
                  obtain rfl : mt_111 = t := Option.some.inj h
                  exact mo_111
            · by_cases h112_116 : k < 114
              · by_cases h112_114 : k < 113
                · obtain rfl : k = 112 := by omega
                  obtain rfl : mt_112 = t := Option.some.inj h
                  exact mo_112
                · obtain rfl : k = 113 := by omega
                  obtain rfl : mt_113 = t := Option.some.inj h
                  exact mo_113
              · by_cases h114_116 : k < 115
                · obtain rfl : k = 114 := by omega
                  obtain rfl : mt_114 = t := Option.some.inj h
                  exact mo_114
                · obtain rfl : k = 115 := by omega
                  obtain rfl : mt_115 = t := Option.some.inj h
                  exact mo_115
        · by_cases h116_133 : k < 124
          · by_cases h116_124 : k < 120
            · by_cases h116_120 : k < 118
              · by_cases h116_118 : k < 117
                · obtain rfl : k = 116 := by omega
                  obtain rfl : mt_116 = t := Option.some.inj h
                  exact mo_116
                · obtain rfl : k = 117 := by omega
                  obtain rfl : mt_117 = t := Option.some.inj h
                  exact mo_117
              · by_cases h118_120 : k < 119
                · obtain rfl : k = 118 := by omega
                  obtain rfl : mt_118 = t := Option.some.inj h
                  exact mo_118
                · obtain rfl : k = 119 := by omega
                  obtain rfl : mt_119 = t := Option.some.inj h
                  exact mo_119
            · by_cases h120_124 : k < 122
              · by_cases h120_122 : k < 121
                · obtain rfl : k = 120 := by omega
                  obtain rfl : mt_120 = t := Option.some.inj h
                  exact mo_120
                · obtain rfl : k = 121 := by omega
                  obtain rfl : mt_121 = t := Option.some.inj h
                  exact mo_121
              · by_cases h122_124 : k < 123
                · obtain rfl : k = 122 := by omega
                  obtain rfl : mt_122 = t := Option.some.inj h
                  exact mo_122
                · obtain rfl : k = 123 := by omega
                  obtain rfl : mt_123 = t := Option.some.inj h
                  exact mo_123
          · by_cases h124_133 : k < 128
            · by_cases h124_128 : k < 126
              · by_cases h124_126 : k < 125
                · obtain rfl : k = 124 := by omega
                  obtain rfl : mt_124 = t := Option.some.inj h
                  exact mo_124
                · obtain rfl : k = 125 := by omega
                  obtain rfl : mt_125 = t := Option.some.inj h
                  exact mo_125
              · by_cases h126_128 : k < 127
                · obtain rfl : k = 126 := by omega
                  obtain rfl : mt_126 = t := Option.some.inj h
                  exact mo_126
                · obtain rfl : k = 127 := by omega
                  obtain rfl : mt_127 = t := Option.some.inj h
                  exact mo_127
            · by_cases h128_133 : k < 130
              · by_cases h128_130 : k < 129
                · obtain rfl : k = 128 := by omega
                  obtain rfl : mt_128 = t := Option.some.inj h
                  exact mo_128
                · obtain rfl : k = 129 := by omega
                  obtain rfl : mt_129 = t := Option.some.inj h
                  exact mo_129
              · by_cases h130_133 : k < 131
                · obtain rfl : k = 130 := by omega
                  obtain rfl : mt_130 = t := Option.some.inj h
                  exact mo_130
                · by_cases h131_133 : k < 132
                  · obtain rfl : k = 131 := by omega
                    obtain rfl : mt_131 = t := Option.some.inj h
                    exact mo_131
                  · obtain rfl : k = 132 := by omega
                    obtain rfl : mt_132 = t := Option.some.inj h
                    exact mo_132
  · by_cases h133_266 : k < 199
    · by_cases h133_199 : k < 166
      · by_cases h133_166 : k < 149
        · by_cases h133_149 : k < 141
          · by_cases h133_141 : k < 137
            · by_cases h133_137 : k < 135
              · by_cases h133_135 : k < 134
                · obtain rfl : k = 133 := by omega
                  obtain rfl : mt_133 = t := Option.some.inj h
                  exact mo_133
                · obtain rfl : k = 134 := by omega
                  obtain rfl : mt_134 = t := Option.some.inj h
                  exact mo_134
              · by_cases h135_137 : k < 136
                · obtain rfl : k = 135 := by omega
                  obtain rfl : mt_135 = t := Option.some.inj h
                  exact mo_135
                · obtain rfl : k = 136 := by omega
                  obtain rfl : mt_136 = t := Option.some.inj h
                  exact mo_136
            · by_cases h137_141 : k < 139
              · by_cases h137_139 : k < 138
                · obtain rfl : k = 137 := by omega
                  obtain rfl : mt_137 = t := Option.some.inj h
                  exact mo_137
                · obtain rfl : k = 138 := by omega
                  obtain rfl : mt_138 = t := Option.some.inj h
                  exact mo_138
              · by_cases h139_141 : k < 140
                · obtain rfl : k = 139 := by omega
                  obtain rfl : mt_139 = t := Option.some.inj h
                  exact mo_139
                · obtain rfl : k = 140 := by omega
                  obtain rfl : mt_140 = t := Option.some.inj h
                  exact mo_140
          · by_cases h141_149 : k < 145
            · by_cases h141_145 : k < 143
              · by_cases h141_143 : k < 142
                · obtain rfl : k = 141 := by omega
                  obtain rfl : mt_141 = t := Option.some.inj h
                  exact mo_141
                · obtain rfl : k = 142 := by omega
                  obtain rfl : mt_142 = t := Option.some.inj h
                  exact mo_142
              · by_cases h143_145 : k < 144
                · obtain rfl : k = 143 := by omega
                  obtain rfl : mt_143 = t := Option.some.inj h
                  exact mo_143
                · obtain rfl : k = 144 := by omega
                  obtain rfl : mt_144 = t := Option.some.inj h
                  exact mo_144
            · by_cases h145_149 : k < 147
              · by_cases h145_147 : k < 146
                · obtain rfl : k = 145 := by omega
                  obtain rfl : mt_145 = t := Option.some.inj h
                  exact mo_145
                · obtain rfl : k = 146 := by omega
                  obtain rfl : mt_146 = t := Option.some.inj h
                  exact mo_146
              · by_cases h147_149 : k < 148
                · obtain rfl : k = 147 := by omega
                  obtain rfl : mt_147 = t := Option.some.inj h
                  exact mo_147
                · obtain rfl : k = 148 := by omega
                  obtain rfl : mt_148 = t := Option.some.inj h
                  exact mo_148
        · by_cases h149_166 : k < 157
          · by_cases h149_157 : k < 153
            · by_cases h149_153 : k < 151
              · by_cases h149_151 : k < 150
                · obtain rfl : k = 149 := by omega
                  obtain rfl : mt_149 = t := Option.some.inj h
                  exact mo_149
                · obtain rfl : k = 150 := by omega
                  obtain rfl : mt_150 = t := Option.some.inj h
                  exact mo_150
              · by_cases h151_153 : k < 152
                · obtain rfl : k = 151 := by omega
                  obtain rfl : mt_151 = t := Option.some.inj h
                  exact mo_151
                · obtain rfl : k = 152 := by omega
                  obtain rfl : mt_152 = t := Option.some.inj h
                  exact mo_152
            · by_cases h153_157 : k < 155
              · by_cases h153_155 : k < 154
                · obtain rfl : k = 153 := by omega
                  obtain rfl : mt_153 = t := Option.some.inj h
                  exact mo_153
                · obtain rfl : k = 154 := by omega
                  obtain rfl : mt_154 = t := Option.some.inj h
                  exact mo_154
              · by_cases h155_157 : k < 156
                · obtain rfl : k = 155 := by omega
                  obtain rfl : mt_155 = t := Option.some.inj h
                  exact mo_155
                · obtain rfl : k = 156 := by omega
                  obtain rfl : mt_156 = t := Option.some.inj h
                  exact mo_156
          · by_cases h157_166 : k < 161
            · by_cases h157_161 : k < 159
              · by_cases h157_159 : k < 158
                · obtain rfl : k = 157 := by omega
                  obtain rfl : mt_157 = t := Option.some.inj h
                  exact mo_157
                · obtain rfl : k = 158 := by omega
                  obtain rfl : mt_158 = t := Option.some.inj h
                  exact mo_158
              · by_cases h159_161 : k < 160
                · obtain rfl : k = 159 := by omega
                  obtain rfl : mt_159 = t := Option.some.inj h
                  exact mo_159
                · obtain rfl : k = 160 := by omega
                  obtain rfl : mt_160 = t := Option.some.inj h
                  exact mo_160
            · by_cases h161_166 : k < 163
              · by_cases h161_163 : k < 162
                · obtain rfl : k = 161 := by omega
                  obtain rfl : mt_161 = t := Option.some.inj h
                  exact mo_161
                · obtain rfl : k = 162 := by omega
                  obtain rfl : mt_162 = t := Option.some.inj h
                  exact mo_162
              · by_cases h163_166 : k < 164
                · obtain rfl : k = 163 := by omega
                  obtain rfl : mt_163 = t := Option.some.inj h
                  exact mo_163
                · by_cases h164_166 : k < 165
                  · obtain rfl : k = 164 := by omega
                    obtain rfl : mt_164 = t := Option.some.inj h
                    exact mo_164
                  · obtain rfl : k = 165 := by omega
                    obtain rfl : mt_165 = t := Option.some.inj h
                    exact mo_165
      · by_cases h166_199 : k < 182
        · by_cases h166_182 : k < 174
          · by_cases h166_174 : k < 170
            · by_cases h166_170 : k < 168
              · by_cases h166_168 : k < 167
                · obtain rfl : k = 166 := by omega
                  obtain rfl : mt_166 = t := Option.some.inj h
                  exact mo_166
                · obtain rfl : k = 167 := by omega
                  obtain rfl : mt_167 = t := Option.some.inj h
                  exact mo_167
              · by_cases h168_170 : k < 169
                · obtain rfl : k = 168 := by omega
                  obtain rfl : mt_168 = t := Option.some.inj h
                  exact mo_168
                · obtain rfl : k = 169 := by omega
                  obtain rfl : mt_169 = t := Option.some.inj h
                  exact mo_169
            · by_cases h170_174 : k < 172
              · by_cases h170_172 : k < 171
                · obtain rfl : k = 170 := by omega
                  obtain rfl : mt_170 = t := Option.some.inj h
                  exact mo_170
                · obtain rfl : k = 171 := by omega
                  obtain rfl : mt_171 = t := Option.some.inj h
                  exact mo_171
              · by_cases h172_174 : k < 173
                · obtain rfl : k = 172 := by omega
                  obtain rfl : mt_172 = t := Option.some.inj h
                  exact mo_172
                · obtain rfl : k = 173 := by omega
                  obtain rfl : mt_173 = t := Option.some.inj h
                  exact mo_173
          · by_cases h174_182 : k < 178
            · by_cases h174_178 : k < 176
              · by_cases h174_176 : k < 175
                · obtain rfl : k = 174 := by omega
                  obtain rfl : mt_174 = t := Option.some.inj h
                  exact mo_174
                · obtain rfl : k = 175 := by omega
                  obtain rfl : mt_175 = t := Option.some.inj h
                  exact mo_175
              · by_cases h176_178 : k < 177
                · obtain rfl : k = 176 := by omega
                  obtain rfl : mt_176 = t := Option.some.inj h
                  exact mo_176
                · obtain rfl : k = 177 := by omega
                  obtain rfl : mt_177 = t := Option.some.inj h
                  exact mo_177
            · by_cases h178_182 : k < 180
              · by_cases h178_180 : k < 179
                · obtain rfl : k = 178 := by omega
                  obtain rfl : mt_178 = t := Option.some.inj h
                  exact mo_178
                · obtain rfl : k = 179 := by omega
                  obtain rfl : mt_179 = t := Option.some.inj h
                  exact mo_179
              · by_cases h180_182 : k < 181
                · obtain rfl : k = 180 := by omega
                  obtain rfl : mt_180 = t := Option.some.inj h
                  exact mo_180
                · obtain rfl : k = 181 := by omega
                  obtain rfl : mt_181 = t := Option.some.inj h
                  exact mo_181
        · by_cases h182_199 : k < 190
          · by_cases h182_190 : k < 186
            · by_cases h182_186 : k < 184
              · by_cases h182_184 : k < 183
                · obtain rfl : k = 182 := by omega
                  obtain rfl : mt_182 = t := Option.some.inj h
                  exact mo_182
                · obtain rfl : k = 183 := by omega
                  obtain rfl : mt_183 = t := Option.some.inj h
                  exact mo_183
              · by_cases h184_186 : k < 185
                · obtain rfl : k = 184 := by omega
                  obtain rfl : mt_184 = t := Option.some.inj h
                  exact mo_184
                · obtain rfl : k = 185 := by omega
                  obtain rfl : mt_185 = t := Option.some.inj h
                  exact mo_185
            · by_cases h186_190 : k < 188
              · by_cases h186_188 : k < 187
                · obtain rfl : k = 186 := by omega
                  obtain rfl : mt_186 = t := Option.some.inj h
                  exact mo_186
                · obtain rfl : k = 187 := by omega
                  obtain rfl : mt_187 = t := Option.some.inj h
                  exact mo_187
              · by_cases h188_190 : k < 189
                · obtain rfl : k = 188 := by omega
                  obtain rfl : mt_188 = t := Option.some.inj h
                  exact mo_188
                · obtain rfl : k = 189 := by omega
                  obtain rfl : mt_189 = t := Option.some.inj h
                  exact mo_189
          · by_cases h190_199 : k < 194
            · by_cases h190_194 : k < 192
              · by_cases h190_192 : k < 191
                · obtain rfl : k = 190 := by omega
                  obtain rfl : mt_190 = t := Option.some.inj h
                  exact mo_190
                · obtain rfl : k = 191 := by omega
                  obtain rfl : mt_191 = t := Option.some.inj h
                  exact mo_191
              · by_cases h192_194 : k < 193
                · obtain rfl : k = 192 := by omega
                  obtain rfl : mt_192 = t := Option.some.inj h
                  exact mo_192
                · obtain rfl : k = 193 := by omega
                  obtain rfl : mt_193 = t := Option.some.inj h
                  exact mo_193
            · by_cases h194_199 : k < 196
              · by_cases h194_196 : k < 195
                · obtain rfl : k = 194 := by omega
                  obtain rfl : mt_194 = t := Option.some.inj h
                  exact mo_194
                · obtain rfl : k = 195 := by omega
                  obtain rfl : mt_195 = t := Option.some.inj h
                  exact mo_195
              · by_cases h196_199 : k < 197
                · obtain rfl : k = 196 := by omega
                  obtain rfl : mt_196 = t := Option.some.inj h
                  exact mo_196
                · by_cases h197_199 : k < 198
                  · obtain rfl : k = 197 := by omega
                    obtain rfl : mt_197 = t := Option.some.inj h
                    exact mo_197
                  · obtain rfl : k = 198 := by omega
                    obtain rfl : mt_198 = t := Option.some.inj h
                    exact mo_198
    · by_cases h199_266 : k < 232
      · by_cases h199_232 : k < 215
        · by_cases h199_215 : k < 207
          · by_cases h199_207 : k < 203
            · by_cases h199_203 : k < 201
              · by_cases h199_201 : k < 200
                · obtain rfl : k = 199 := by omega
                  obtain rfl : mt_199 = t := Option.some.inj h
                  exact mo_199
                · obtain rfl : k = 200 := by omega
                  obtain rfl : mt_200 = t := Option.some.inj h
                  exact mo_200
              · by_cases h201_203 : k < 202
                · obtain rfl : k = 201 := by omega
                  obtain rfl : mt_201 = t := Option.some.inj h
                  exact mo_201
                · obtain rfl : k = 202 := by omega
                  obtain rfl : mt_202 = t := Option.some.inj h
                  exact mo_202
            · by_cases h203_207 : k < 205
              · by_cases h203_205 : k < 204
                · obtain rfl : k = 203 := by omega
                  obtain rfl : mt_203 = t := Option.some.inj h
                  exact mo_203
                · obtain rfl : k = 204 := by omega
                  obtain rfl : mt_204 = t := Option.some.inj h
                  exact mo_204
              · by_cases h205_207 : k < 206
                · obtain rfl : k = 205 := by omega
                  obtain rfl : mt_205 = t := Option.some.inj h
                  exact mo_205
                · obtain rfl : k = 206 := by omega
                  obtain rfl : mt_206 = t := Option.some.inj h
                  exact mo_206
          · by_cases h207_215 : k < 211
            · by_cases h207_211 : k < 209
              · by_cases h207_209 : k < 208
                · obtain rfl : k = 207 := by omega
                  obtain rfl : mt_207 = t := Option.some.inj h
                  exact mo_207
                · obtain rfl : k = 208 := by omega
                  obtain rfl : mt_208 = t := Option.some.inj h
                  exact mo_208
              · by_cases h209_211 : k < 210
                · obtain rfl : k = 209 := by omega
                  obtain rfl : mt_209 = t := Option.some.inj h
                  exact mo_209
                · obtain rfl : k = 210 := by omega
                  obtain rfl : mt_210 = t := Option.some.inj h
                  exact mo_210
            · by_cases h211_215 : k < 213
              · by_cases h211_213 : k < 212
                · obtain rfl : k = 211 := by omega
                  obtain rfl : mt_211 = t := Option.some.inj h
                  exact mo_211
                · obtain rfl : k = 212 := by omega
                  obtain rfl : mt_212 = t := Option.some.inj h
                  exact mo_212
              · by_cases h213_215 : k < 214
                · obtain rfl : k = 213 := by omega
                  obtain rfl : mt_213 = t := Option.some.inj h
                  exact mo_213
                · obtain rfl : k = 214 := by omega
                  obtain rfl : mt_214 = t := Option.some.inj h
                  exact mo_214
        · by_cases h215_232 : k < 223
          · by_cases h215_223 : k < 219
            · by_cases h215_219 : k < 217
              · by_cases h215_217 : k < 216
                · obtain rfl : k = 215 := by omega
                  obtain rfl : mt_215 = t := Option.some.inj h
                  exact mo_215
                · obtain rfl : k = 216 := by omega
                  obtain rfl : mt_216 = t := Option.some.inj h
                  exact mo_216
              · by_cases h217_219 : k < 218
                · obtain rfl : k = 217 := by omega
                  obtain rfl : mt_217 = t := Option.some.inj h
                  exact mo_217
                · obtain rfl : k = 218 := by omega
                  obtain rfl : mt_218 = t := Option.some.inj h
                  exact mo_218
            · by_cases h219_223 : k < 221
              · by_cases h219_221 : k < 220
                · obtain rfl : k = 219 := by omega
                  obtain rfl : mt_219 = t := Option.some.inj h
                  exact mo_219
                · obtain rfl : k = 220 := by omega
                  obtain rfl : mt_220 = t := Option.some.inj h
                  exact mo_220
              · by_cases h221_223 : k < 222
                · obtain rfl : k = 221 := by omega
                  obtain rfl : mt_221 = t := Option.some.inj h
                  exact mo_221
                · obtain rfl : k = 222 := by omega
                  obtain rfl : mt_222 = t := Option.some.inj h
                  exact mo_222
          · by_cases h223_232 : k < 227
            · by_cases h223_227 : k < 225
              · by_cases h223_225 : k < 224
                · obtain rfl : k = 223 := by omega
                  obtain rfl : mt_223 = t := Option.some.inj h
                  exact mo_223
                · obtain rfl : k = 224 := by omega
                  obtain rfl : mt_224 = t := Option.some.inj h
                  exact mo_224
              · by_cases h225_227 : k < 226
                · obtain rfl : k = 225 := by omega
                  obtain rfl : mt_225 = t := Option.some.inj h
                  exact mo_225
                · obtain rfl : k = 226 := by omega
                  obtain rfl : mt_226 = t := Option.some.inj h
                  exact mo_226
            · by_cases h227_232 : k < 229
              · by_cases h227_229 : k < 228
                · obtain rfl : k = 227 := by omega
                  obtain rfl : mt_227 = t := Option.some.inj h
                  exact mo_227
                · obtain rfl : k = 228 := by omega
                  obtain rfl : mt_228 = t := Option.some.inj h
                  exact mo_228
              · by_cases h229_232 : k < 230
                · obtain rfl : k = 229 := by omega
                  obtain rfl : mt_229 = t := Option.some.inj h
                  exact mo_229
                · by_cases h230_232 : k < 231
                  · obtain rfl : k = 230 := by omega
                    obtain rfl : mt_230 = t := Option.some.inj h
                    exact mo_230
                  · obtain rfl : k = 231 := by omega
                    obtain rfl : mt_231 = t := Option.some.inj h
                    exact mo_231
      · by_cases h232_266 : k < 249
        · by_cases h232_249 : k < 240
          · by_cases h232_240 : k < 236
            · by_cases h232_236 : k < 234
              · by_cases h232_234 : k < 233
                · obtain rfl : k = 232 := by omega
                  obtain rfl : mt_232 = t := Option.some.inj h
                  exact mo_232
                · obtain rfl : k = 233 := by omega
                  obtain rfl : mt_233 = t := Option.some.inj h
                  exact mo_233
              · by_cases h234_236 : k < 235
                · obtain rfl : k = 234 := by omega
                  obtain rfl : mt_234 = t := Option.some.inj h
                  exact mo_234
                · obtain rfl : k = 235 := by omega
                  obtain rfl : mt_235 = t := Option.some.inj h
                  exact mo_235
            · by_cases h236_240 : k < 238
              · by_cases h236_238 : k < 237
                · obtain rfl : k = 236 := by omega
                  obtain rfl : mt_236 = t := Option.some.inj h
                  exact mo_236
                · obtain rfl : k = 237 := by omega
                  obtain rfl : mt_237 = t := Option.some.inj h
                  exact mo_237
              · by_cases h238_240 : k < 239
                · obtain rfl : k = 238 := by omega
                  obtain rfl : mt_238 = t := Option.some.inj h
                  exact mo_238
                · obtain rfl : k = 239 := by omega
                  obtain rfl : mt_239 = t := Option.some.inj h
                  exact mo_239
          · by_cases h240_249 : k < 244
            · by_cases h240_244 : k < 242
              · by_cases h240_242 : k < 241
                · obtain rfl : k = 240 := by omega
                  obtain rfl : mt_240 = t := Option.some.inj h
                  exact mo_240
                · obtain rfl : k = 241 := by omega
                  obtain rfl : mt_241 = t := Option.some.inj h
                  exact mo_241
              · by_cases h242_244 : k < 243
                · obtain rfl : k = 242 := by omega
                  obtain rfl : mt_242 = t := Option.some.inj h
                  exact mo_242
                · obtain rfl : k = 243 := by omega
                  obtain rfl : mt_243 = t := Option.some.inj h
                  exact mo_243
            · by_cases h244_249 : k < 246
              · by_cases h244_246 : k < 245
                · obtain rfl : k = 244 := by omega
                  obtain rfl : mt_244 = t := Option.some.inj h
                  exact mo_244
                · obtain rfl : k = 245 := by omega
                  obtain rfl : mt_245 = t := Option.some.inj h
                  exact mo_245
              · by_cases h246_249 : k < 247
                · obtain rfl : k = 246 := by omega
                  obtain rfl : mt_246 = t := Option.some.inj h
                  exact mo_246
                · by_cases h247_249 : k < 248
                  · obtain rfl : k = 247 := by omega
                    obtain rfl : mt_247 = t := Option.some.inj h
                    exact mo_247
                  · obtain rfl : k = 248 := by omega
                    obtain rfl : mt_248 = t := Option.some.inj h
                    exact mo_248
        · by_cases h249_266 : k < 257
          · by_cases h249_257 : k < 253
            · by_cases h249_253 : k < 251
              · by_cases h249_251 : k < 250
                · obtain rfl : k = 249 := by omega
                  obtain rfl : mt_249 = t := Option.some.inj h
                  exact mo_249
                · obtain rfl : k = 250 := by omega
                  obtain rfl : mt_250 = t := Option.some.inj h
                  exact mo_250
              · by_cases h251_253 : k < 252
                · obtain rfl : k = 251 := by omega
                  obtain rfl : mt_251 = t := Option.some.inj h
                  exact mo_251
                · obtain rfl : k = 252 := by omega
                  obtain rfl : mt_252 = t := Option.some.inj h
                  exact mo_252
            · by_cases h253_257 : k < 255
              · by_cases h253_255 : k < 254
                · obtain rfl : k = 253 := by omega
                  obtain rfl : mt_253 = t := Option.some.inj h
                  exact mo_253
                · obtain rfl : k = 254 := by omega
                  obtain rfl : mt_254 = t := Option.some.inj h
                  exact mo_254
              · by_cases h255_257 : k < 256
                · obtain rfl : k = 255 := by omega
                  obtain rfl : mt_255 = t := Option.some.inj h
                  exact mo_255
                · obtain rfl : k = 256 := by omega
                  obtain rfl : mt_256 = t := Option.some.inj h
                  exact mo_256
          · by_cases h257_266 : k < 261
            · by_cases h257_261 : k < 259
              · by_cases h257_259 : k < 258
                · obtain rfl : k = 257 := by omega
                  obtain rfl : mt_257 = t := Option.some.inj h
                  exact mo_257
                · obtain rfl : k = 258 := by omega
                  obtain rfl : mt_258 = t := Option.some.inj h
                  exact mo_258
              · by_cases h259_261 : k < 260
                · obtain rfl : k = 259 := by omega
                  obtain rfl : mt_259 = t := Option.some.inj h
                  exact mo_259
                · obtain rfl : k = 260 := by omega
                  obtain rfl : mt_260 = t := Option.some.inj h
                  exact mo_260
            · by_cases h261_266 : k < 263
              · by_cases h261_263 : k < 262
                · obtain rfl : k = 261 := by omega
                  obtain rfl : mt_261 = t := Option.some.inj h
                  exact mo_261
                · obtain rfl : k = 262 := by omega
                  obtain rfl : mt_262 = t := Option.some.inj h
                  exact mo_262
              · by_cases h263_266 : k < 264
                · obtain rfl : k = 263 := by omega
                  obtain rfl : mt_263 = t := Option.some.inj h
                  exact mo_263
                · by_cases h264_266 : k < 265
                  · obtain rfl : k = 264 := by omega
                    obtain rfl : mt_264 = t := Option.some.inj h
                    exact mo_264
                  · obtain rfl : k = 265 := by omega
                    obtain rfl : mt_265 = t := Option.some.inj h
                    exact mo_265
/-- calls: the entry's method -/
noncomputable def pj_okX (e : Nat × Nat × Nat × Nat × Bool) : Bool := match e.2.2.1 with
  | 1000 => decide (tables_1[e.2.2.2.1]? = some (Cond.methodLink (cn e.1) e.2.1 objectInit))
  | 1001 => decide (tables_1[e.2.2.2.1]? = some (Cond.methodLink (cn e.1) e.2.1 Lib.Math.min.name))
  | 1002 => decide (tables_1[e.2.2.2.1]? = some (Cond.methodLink (cn e.1) e.2.1 Lib.Math.max.name))
  | 1003 => decide (tables_1[e.2.2.2.1]? = some (Cond.methodLink (cn e.1) e.2.1 Lib.Math.abs.name))
  | 1004 => decide (tables_1[e.2.2.2.1]? = some (Cond.methodLink (cn e.1) e.2.1 arraycopyName))
  | 1005 => Nat.beq e.1 6 && Nat.beq e.2.1 40
  | x => (match tm x with
    | none => false
    | some t => !Nat.beq x 0 && (match e.2.2.2.2 with
      | false => decide (tables_1[e.2.2.2.1]? = some (Cond.methodLink (cn e.1) e.2.1 t.1.1))
      | true => decide (tables_1[e.2.2.2.1]? = some (Cond.methodLinkNest (cn e.1) e.2.1 t.1.1 "PegCoats"))))
set_option maxRecDepth 100000 in
theorem cpM_0_ok : cpM_0.all pj_okX = true := by decide +kernel
set_option maxRecDepth 100000 in
theorem cpM_1_ok : cpM_1.all pj_okX = true := by decide +kernel
set_option maxRecDepth 100000 in
theorem cpM_2_ok : cpM_2.all pj_okX = true := by decide +kernel
set_option maxRecDepth 100000 in
theorem cpM_3_ok : cpM_3.all pj_okX = true := by decide +kernel
set_option maxRecDepth 100000 in
theorem cpM_4_ok : cpM_4.all pj_okX = true := by decide +kernel
set_option maxRecDepth 100000 in
theorem cpM_5_ok : cpM_5.all pj_okX = true := by decide +kernel
theorem cpM_ok : cpM.all pj_okX = true := by
  unfold cpM
  rw [List.all_append, List.all_append, List.all_append, List.all_append, List.all_append, cpM_0_ok, cpM_1_ok, cpM_2_ok, cpM_3_ok, cpM_4_ok, cpM_5_ok]
  rfl
end
section
/-! the pure machine's cells in the heap -/
/-- classes' numbers, arrays' classes, the script's cell, the literal's, the first new cell, the script's length and ints -/
abbrev pj_Wd : Type := va_G × (Nat → ClassId) × Nat × Nat × Nat × Nat × (Nat → Int32)
def pj_ad (ω : pj_Wd) (a : Nat) : Nat := match a with
  | 0 => ω.2.2.1
  | 1 => ω.2.2.2.1
  | k + 2 => ω.2.2.2.2.1 + k
def pj_cv (ω : pj_Wd) (v : Value) : Value := match v with
  | .ref a => .ref (pj_ad ω a)
  | v => v
theorem pj_cv_cat (ω : pj_Wd) (v : Value) : (pj_cv ω v).category = v.category := by cases v <;> rfl
theorem pj_cv_sum (ω : pj_Wd) : ∀ st : List Value, ((st.map (pj_cv ω)).map fun v => v.category).sum = (st.map Value.category).sum
  | [] => rfl
  | v :: st => by
    have ih := pj_cv_sum ω st
    simp only [List.map_cons, List.sum_cons, pj_cv_cat, ih]
def pj_fv (ω : pj_Wd) (Z : pj_Z) (I : Nat → Nat → Int32) (J : Nat → Nat → Int64) (c k j : Nat) : Value := match pj_ft c j with
  | 0 => .int (I k j)
  | 1 => .long (J k j)
  | 2 => va_rf ((Z.2.2.2 k j).map (pj_ad ω))
  | _ => .int (I k j)
def pj_we (ω : pj_Wd) (Z : pj_Z) (I : Nat → Nat → Int32) (J : Nat → Nat → Int64) (k : Nat) : va_E := match Z.2.1 k with
  | 13 => .inl (ω.2.1 0, Z.2.2.1 k, .inl (I k))
  | 14 => .inl (ω.2.1 1, Z.2.2.1 k, .inr (.inl (J k)))
  | 15 => .inl (ω.2.1 2, Z.2.2.1 k, .inl (I k))
  | 16 => .inl (ω.2.1 3, Z.2.2.1 k, .inr (.inr (.inr (.inr fun j => (Z.2.2.2 k j).map (pj_ad ω)))))
  | 17 => .inl (ω.2.1 4, Z.2.2.1 k, .inr (.inr (.inr (.inr fun j => (Z.2.2.2 k j).map (pj_ad ω)))))
  | c => .inr (c, (List.range (pj_nf c)).map (pj_fv ω Z I J c k))
def pj_wl (ω : pj_Wd) (Z : pj_Z) (I : Nat → Nat → Int32) (J : Nat → Nat → Int64) : va_W := (List.range (Z.1 - 2)).map fun k => (ω.2.2.2.2.1 + k, pj_we ω Z I J (k + 2))
section PW
variable {ω : pj_Wd} {Z Z' : pj_Z} {I I' : Nat → Nat → Int32} {J J' : Nat → Nat → Int64}
theorem pj_wl_get {k : Nat} (h : k + 2 < Z.1) : (pj_wl ω Z I J)[k]? = some (ω.2.2.2.2.1 + k, pj_we ω Z I J (k + 2)) := by
  unfold pj_wl
  rw [List.getElem?_map, List.getElem?_range (by omega)]
  rfl
theorem pj_wl_inv {k : Nat} {x : Nat × va_E} (h : (pj_wl ω Z I J)[k]? = some x) : k + 2 < Z.1 ∧ x = (ω.2.2.2.2.1 + k, pj_we ω Z I J (k + 2)) := by
  by_cases hk : k + 2 < Z.1
  · rw [pj_wl_get hk] at h
    exact ⟨hk, (Option.some.inj h).symm⟩
  · have hn : (pj_wl ω Z I J)[k]? = none := by
      rw [List.getElem?_eq_none_iff]
      unfold pj_wl
      rw [List.length_map, List.length_range]
      omega
    rw [hn] at h
    cases h
theorem pj_wl_D : va_D (fun x => ω.2.2.2.2.1 ≤ x) (pj_wl ω Z I J) := by
  refine ⟨fun i j x y hi hj e => ?_, fun k x hk => ?_⟩
  · obtain ⟨-, rfl⟩ := pj_wl_inv hi
    obtain ⟨-, rfl⟩ := pj_wl_inv hj
    have e : ω.2.2.2.2.1 + i = ω.2.2.2.2.1 + j := e
    omega
  · obtain ⟨-, rfl⟩ := pj_wl_inv hk
    exact Nat.le_add_right _ _
theorem pj_wl_len : (pj_wl ω Z I J).length = Z.1 - 2 := by
  unfold pj_wl
  rw [List.length_map, List.length_range]
theorem pj_wl_set {a : Nat} (ha : a + 2 < Z.1) (hn : Z'.1 = Z.1) (ho : ∀ k, k ≠ a + 2 → pj_we ω Z' I' J' k = pj_we ω Z I J k) : pj_wl ω Z' I' J' = (pj_wl ω Z I J).set a (ω.2.2.2.2.1 + a, pj_we ω Z' I' J' (a + 2)) := by
  refine List.ext_getElem? (fun k => ?_)
  rw [List.getElem?_set]
  by_cases hk : k + 2 < Z.1
  · rw [pj_wl_get (by rw [hn]; exact hk)]
    by_cases hak : a = k
    · subst hak
      rw [if_pos rfl, if_pos (by rw [pj_wl_len]; omega)]
    · rw [if_neg hak, pj_wl_get hk, ho (k + 2) (by omega)]
  · have e1 : (pj_wl ω Z' I' J')[k]? = none := by rw [List.getElem?_eq_none_iff, pj_wl_len, hn]; omega
    have e2 : (pj_wl ω Z I J)[k]? = none := by rw [List.getElem?_eq_none_iff, pj_wl_len]; omega
    rw [e1, if_neg (by omega), e2]
theorem pj_wl_push (h2 : 2 ≤ Z.1) (hn : Z'.1 = Z.1 + 1) (ho : ∀ k, k < Z.1 → pj_we ω Z' I' J' k = pj_we ω Z I J k) : pj_wl ω Z' I' J' = pj_wl ω Z I J ++ [(ω.2.2.2.2.1 + (Z.1 - 2), pj_we ω Z' I' J' Z.1)] := by
  have e : Z'.1 - 2 = Z.1 - 2 + 1 := by omega
  unfold pj_wl
  rw [e, List.range_succ, List.map_append]
  congr 1
  · apply List.map_congr_left
    intro k hk
    rw [ho (k + 2) (by have := List.mem_range.mp hk; omega)]
  · show [(_, pj_we ω Z' I' J' (Z.1 - 2 + 2))] = _
    rw [show Z.1 - 2 + 2 = Z.1 by omega]
theorem pj_u_fun {α : Type} (f : Nat → Nat → α) (a k : Nat) (v : α) {b : Nat} (h : b ≠ a) : pj_u f a k v b = f b := funext fun j => pj_u_row f a k v h j
/-- the parts that are read of a cell -/
theorem pj_we_eq {k : Nat} (hk : Z'.2.1 k = Z.2.1 k) (hl : Z'.2.2.1 k = Z.2.2.1 k) (hr : Z'.2.2.2 k = Z.2.2.2 k) (hI : I' k = I k) (hJ : J' k = J k) : pj_we ω Z' I' J' k = pj_we ω Z I J k := by
  unfold pj_we pj_fv
  rw [hk, hl, hr, hI, hJ]
end PW
/-- what is sure of the cells' numbers -/
def pj_wf (Z : pj_Z) : Prop := 2 ≤ Z.1 ∧ Z.2.1 0 = 18 ∧ Z.2.1 1 = 19 ∧ ∀ k, Z.1 ≤ k → Z.2.1 k = 20
theorem pj_wf_in {Z : pj_Z} (h : pj_wf Z) {a c : Nat} (hc : Z.2.1 a = c) (hl : c < 18) : ∃ k, a = k + 2 ∧ k + 2 < Z.1 := by
  obtain ⟨h1, h2, h3, h4⟩ := h
  rcases a with _ | _ | k
  · have hc : Z.2.1 0 = c := hc
    omega
  · have hc : Z.2.1 1 = c := hc
    omega
  · refine ⟨k, rfl, Nat.lt_of_not_le fun q => ?_⟩
    have hc : Z.2.1 (k + 2) = c := hc
    have := h4 (k + 2) q
    omega
def pj_tys (ω : pj_Wd) : List (ClassId × FieldType) := [(ω.2.1 0, .int), (ω.2.1 1, .long), (ω.2.1 2, .boolean), (ω.2.1 3, .object "PegCoats$State"), (ω.2.1 4, .array .int)]
/-- locals -/
def pj_lr (ω : pj_Wd) (ls : Array Slot) (nL : Nat) (L : pj_L) : Prop := L.length = nL ∧ ∃ l : List (Nat × Value), lv_has ls nL l ∧ ∀ (i : Nat) (v : Value), L[i]? = some (some v) → (i, pj_cv ω v) ∈ l
section PL
variable {ω : pj_Wd} {ls : Array Slot} {nL : Nat} {L : pj_L}
theorem pj_lr_get (h : pj_lr ω ls nL L) {i : Nat} {v : Value} (e : L[i]? = some (some v)) : ls[i]? = some (.val (pj_cv ω v)) := by
  obtain ⟨-, l, h1, h2⟩ := h
  exact h1.2.2 _ (h2 i v e)
theorem pj_kill_len (L : pj_L) (i : Nat) : (pj_kill L i).length = L.length := by
  cases i with
  | zero => rfl
  | succ j =>
    show (pj_k1 L[j]? L j).length = L.length
    rcases L[j]? with _ | _ | v
    · rfl
    · rfl
    · cases v <;> first | rfl | exact List.length_set
theorem pj_kill_get {L : pj_L} {i j : Nat} {v : Value} (e : (pj_kill L i)[j]? = some (some v)) : L[j]? = some (some v) ∧ ¬ (j + 1 = i ∧ v.category = 2) := by
  cases i with
  | zero => exact ⟨e, fun h => by omega⟩
  | succ n =>
    have e : (pj_k1 L[n]? L n)[j]? = some (some v) := e
    by_cases hj : j = n
    · subst hj
      cases hL : L[j]? with
      | none => rw [hL] at e; rw [show pj_k1 none L j = L from rfl, hL] at e; cases e
      | some o =>
        rw [hL] at e
        cases o with
        | none => rw [show pj_k1 (some none) L j = L from rfl, hL] at e; cases e
        | some u =>
          have hs : ∀ (h : (L.set j none)[j]? = some (some v)), False := fun h => by
            rw [List.getElem?_set, if_pos rfl] at h
            split at h <;> cases h
          cases u
          case long x => exact (hs e).elim
          case double x => exact (hs e).elim
          all_goals
            rw [show pj_k1 (some (some _)) L j = L from rfl, hL] at e
            cases e
            exact ⟨rfl, fun h => by have := h.2; simp [Value.category] at this⟩
    · refine ⟨?_, fun h => hj (by omega)⟩
      have hs : (L.set n none)[j]? = L[j]? := by rw [List.getElem?_set, if_neg (fun q => hj q.symm)]
      rcases hq : L[n]? with _ | _ | u
      · rw [hq] at e; exact e
      · rw [hq] at e; exact e
      · rw [hq] at e
        cases u <;> first | exact e | (rw [show pj_k1 (some (some (Value.long _))) L n = L.set n none from rfl, hs] at e; exact e) | (rw [show pj_k1 (some (some (Value.double _))) L n = L.set n none from rfl, hs] at e; exact e)
theorem pj_lr_s1 {l : List (Nat × Value)} (hl : L.length = nL) (h2 : ∀ (i : Nat) (v : Value), L[i]? = some (some v) → (i, pj_cv ω v) ∈ l) {i : Nat} (v : Value) {ls' : Array Slot} (h' : lv_has ls' nL ((i, pj_cv ω v) :: l.filter (fun q => !(q.1 == i) && !(q.1 + 1 == i && q.2.category == 2)))) : pj_lr ω ls' nL (pj_s1 L i v) := by
  refine ⟨by unfold pj_s1; rw [List.length_set, pj_kill_len]; exact hl, _, h', fun j u e => ?_⟩
  unfold pj_s1 at e
  rw [List.getElem?_set] at e
  by_cases hij : i = j
  · subst hij
    rw [if_pos rfl] at e
    split at e
    · cases e; exact List.mem_cons_self
    · cases e
  · rw [if_neg hij] at e
    obtain ⟨e1, e2⟩ := pj_kill_get e
    refine List.mem_cons_of_mem _ (List.mem_filter.mpr ⟨h2 j u e1, ?_⟩)
    simp only [pj_cv_cat, Bool.and_eq_true, Bool.not_eq_true', Bool.and_eq_false_iff, beq_eq_false_iff_ne]
    refine ⟨fun q => hij q.symm, ?_⟩
    by_cases hq : j + 1 = i
    · right
      intro q
      exact e2 ⟨hq, q⟩
    · left
      exact hq
theorem pj_lr_s2 {l : List (Nat × Value)} (hl : L.length = nL) (h2 : ∀ (i : Nat) (v : Value), L[i]? = some (some v) → (i, pj_cv ω v) ∈ l) {i : Nat} (v : Value) {ls' : Array Slot} (h' : lv_has ls' nL ((i, pj_cv ω v) :: l.filter (fun q => !(q.1 == i) && (!(q.1 == i + 1) && !(q.1 + 1 == i && q.2.category == 2))))) : pj_lr ω ls' nL (pj_s2 L i v) := by
  refine ⟨by unfold pj_s2; rw [List.length_set, List.length_set, pj_kill_len]; exact hl, _, h', fun j u e => ?_⟩
  unfold pj_s2 at e
  rw [List.getElem?_set] at e
  by_cases hi1 : i + 1 = j
  · rw [if_pos hi1] at e
    split at e <;> cases e
  rw [if_neg hi1, List.getElem?_set] at e
  by_cases hij : i = j
  · subst hij
    rw [if_pos rfl] at e
    split at e
    · cases e; exact List.mem_cons_self
    · cases e
  · rw [if_neg hij] at e
    obtain ⟨e1, e2⟩ := pj_kill_get e
    refine List.mem_cons_of_mem _ (List.mem_filter.mpr ⟨h2 j u e1, ?_⟩)
    simp only [pj_cv_cat, Bool.and_eq_true, Bool.not_eq_true', Bool.and_eq_false_iff, beq_eq_false_iff_ne]
    refine ⟨fun q => hij q.symm, fun q => hi1 q.symm, ?_⟩
    by_cases hq : j + 1 = i
    · right
      intro q
      exact e2 ⟨hq, q⟩
    · left
      exact hq
theorem pj_en_args : ∀ (vs : List Value) (o i : Nat) (v : Value), (pj_en vs)[i]? = some (some v) → (o + i, pj_cv ω v) ∈ lv_args o (vs.map (pj_cv ω))
  | [], o, i, v, e => by simp [pj_en] at e
  | u :: vs, o, i, v, e => by
    have key : ∀ (w : Value), u = w → (w.category = 1 → pj_en (u :: vs) = some w :: pj_en vs) ∧ (w.category = 2 → pj_en (u :: vs) = some w :: none :: pj_en vs) := by
      intro w hw
      subst hw
      cases u <;> simp [pj_en, Value.category]
    rw [List.map_cons, lv_args, pj_cv_cat]
    rcases lv_cat u with hc | hc
    · rw [(key u rfl).1 hc] at e
      cases i with
      | zero =>
        rw [List.getElem?_cons_zero] at e
        cases e
        exact List.mem_cons_self
      | succ i =>
        rw [List.getElem?_cons_succ] at e
        have := pj_en_args vs (o + 1) i v e
        rw [if_neg (by omega), show o + (i + 1) = o + 1 + i by omega]
        exact List.mem_cons_of_mem _ this
    · rw [(key u rfl).2 hc] at e
      rcases i with _ | _ | i
      · rw [List.getElem?_cons_zero] at e
        cases e
        exact List.mem_cons_self
      · rw [List.getElem?_cons_succ, List.getElem?_cons_zero] at e
        cases e
      · rw [List.getElem?_cons_succ, List.getElem?_cons_succ] at e
        have := pj_en_args vs (o + 2) i v e
        rw [if_pos hc, show o + (i + 1 + 1) = o + 2 + i by omega]
        exact List.mem_cons_of_mem _ this
end PL
end
section
/-! a method's body, and the walk goal of the pure machine -/
/-- the literal's bytes, and what is sure of it -/
def pj_by : List Int32 := [99, 111, 97, 116, 32, 32, 115, 105, 122, 101, 32, 32, 112, 97, 121, 32, 32, 32, 109, 97, 110, 32, 32, 32, 97, 103, 101, 32, 32, 32, 119, 101, 97, 114, 115, 32, 111, 102, 32, 32, 32, 32, 119, 97, 114, 109, 115, 32, 103, 114, 111, 119, 115, 32, 108, 101, 97, 118, 101, 115, 102, 105, 114, 101, 32, 32, 121, 101, 97, 114, 32, 32, 108, 105, 110, 105, 110, 103, 112, 117, 114, 115, 101, 32, 99, 111, 97, 116, 101, 100, 105, 102, 32, 32, 32, 32, 111, 114, 32, 32, 32, 32, 97, 110, 100, 32, 32, 32, 110, 111, 116, 32, 32, 32, 97, 108, 108, 32, 32, 32, 109, 105, 110, 32, 32, 32, 109, 97, 120, 32, 32, 32]
def pj_st (ω : pj_Wd) (U : State) : Prop := vk_R "PegCoats$Scanner" 38 pj_lit ω.2.2.2.1 U ∧ (∃ qv : Nat, vk_S 1 [132] [pj_by] (fun _ => ω.2.2.2.1) (fun _ => qv) (fun x => ω.2.2.2.2.1 ≤ x) U U.heap) ∧ va_Z "java/lang/String" "COMPACT_STRINGS" "Z" (.int 1) (fun x => ω.2.2.2.2.1 ≤ x) U U.heap ∧
  (va_Z "jdk/internal/util/Preconditions" "SIOOBE_FORMATTER" "Ljava/util/function/BiFunction;" .null (fun x => ω.2.2.2.2.1 ≤ x) U U.heap ∨ ∃ q : Nat, va_Z "jdk/internal/util/Preconditions" "SIOOBE_FORMATTER" "Ljava/util/function/BiFunction;" (.ref q) (fun x => ω.2.2.2.2.1 ≤ x) U U.heap)
theorem pj_st_move {ω : pj_Wd} {s U : State} (h : pj_st ω s) (hR : vk_R "PegCoats$Scanner" 38 pj_lit ω.2.2.2.1 U) (hA : s.vm.Alike U.vm) (hh : ∀ a : Nat, a < s.heap.size → ¬ ω.2.2.2.2.1 ≤ a → U.heap[a]? = s.heap[a]?) : pj_st ω U := by
  obtain ⟨-, ⟨qv, h2⟩, h3, h4⟩ := h
  refine ⟨hR, ⟨qv, (h2.kept hh).moved hA⟩, (h3.kept hh).moved hA, ?_⟩
  rcases h4 with h4 | ⟨q, h4⟩
  · exact Or.inl ((h4.kept hh).moved hA)
  · exact Or.inr ⟨q, (h4.kept hh).moved hA⟩
/-- what holds in a body: the machine, the code, the words, the classes; the script and the literal lie below -/
def pj_X (ω : pj_Wd) (p : Program) (R : Room) (s : State) (m : MethodId) (args : Array Value) (c : Code) (bytes : ByteArray) (nL own : Nat) : Prop :=
  p.tables.exec = Jvm.exec ∧ c.code = bytes ∧ c.maxLocals = nL ∧ s.vm.findClass (cn own) = some m.cls ∧ (∀ w ∈ pj_tbl, w.before args s = true) ∧ va_K ω.1 pj_cl (pj_tys ω) s ∧ ω.2.2.2.2.1 ≤ s.heap.size ∧
  (va_X ω.2.2.1 ω.2.2.2.2.2.1 ω.2.2.2.2.2.2 s s.heap ∧ ω.2.2.1 < ω.2.2.2.2.1 ∧ ω.2.2.1 < s.heap.size) ∧ 64 ≤ R.locals ∧ 1 ≤ R.frames ∧ pj_st ω s
/-- the world at a place of the walk -/
def pj_wd (ω : pj_Wd) (s : State) (Z : pj_Z) (I : Nat → Nat → Int32) (J : Nat → Nat → Int64) (H : Heap) (locs : List Loc) (cells : Nat) : Prop :=
  pj_wf Z ∧ va_P ω.1 pj_cl (pj_wl ω Z I J) H ∧ s.heap.size + cells = ω.2.2.2.2.1 + (Z.1 - 2) ∧ va_S (fun x => ω.2.2.2.2.1 ≤ x) s.heap H locs ∧ Z.2.2.1 0 = ω.2.2.2.2.2.1 ∧ I 0 = ω.2.2.2.2.2.2
def pj_W (ω : pj_Wd) (p : Program) (l : Launch) (e : Env) (R : Room) (s : State) (m : MethodId) (args : Array Value) (below : List Frame) (meth : Method) (c : Code) (nL : Nat) (QW : State → Prop) : pj_G := fun pc L st Z I J bc bs =>
  ∀ (H : Heap) (locs : List Loc) (ls : Array Slot) (cells slots : Nat), pj_wd ω s Z I J H locs cells → cells + bc = R.cells → slots + bs = R.slots → pj_lr ω ls nL L → W p l e R s m args below meth c H locs cells slots QW (F0 m pc ls (st.map (pj_cv ω)))
theorem pj_c_e {b : Bool} {K : Prop} (h : pj_c b K) : b = true ∧ K := by cases b <;> first | exact h.elim | exact ⟨rfl, h⟩
theorem pj_pI_e {st : List Value} {k : Int32 → List Value → Prop} (h : pj_pI st k) : ∃ x r, st = .int x :: r ∧ k x r := by
  rcases st with _ | ⟨v, r⟩
  · exact h.elim
  · cases v <;> first | exact ⟨_, _, rfl, h⟩ | exact h.elim
theorem pj_pL_e {st : List Value} {k : Int64 → List Value → Prop} (h : pj_pL st k) : ∃ x r, st = .long x :: r ∧ k x r := by
  rcases st with _ | ⟨v, r⟩
  · exact h.elim
  · cases v <;> first | exact ⟨_, _, rfl, h⟩ | exact h.elim
theorem pj_pR_e {st : List Value} {k : Nat → List Value → Prop} (h : pj_pR st k) : ∃ x r, st = .ref x :: r ∧ k x r := by
  rcases st with _ | ⟨v, r⟩
  · exact h.elim
  · cases v <;> first | exact ⟨_, _, rfl, h⟩ | exact h.elim
theorem pj_pV_e {st : List Value} {k : Value → List Value → Prop} (h : pj_pV st k) : ∃ v r, st = v :: r ∧ v.category = 1 ∧ k v r := by
  rcases st with _ | ⟨v, r⟩
  · exact h.elim
  · cases v <;> first | exact ⟨_, _, rfl, rfl, h⟩ | exact h.elim
theorem pj_gI_e {L : pj_L} {i : Nat} {k : Int32 → Prop} (h : pj_gI L i k) : ∃ x, L[i]? = some (some (.int x)) ∧ k x := by
  unfold pj_gI at h
  rcases e : L[i]? with _ | _ | v
  · rw [e] at h; exact h.elim
  · rw [e] at h; exact h.elim
  · rw [e] at h
    cases v <;> first | exact ⟨_, rfl, h⟩ | exact h.elim
theorem pj_gL_e {L : pj_L} {i : Nat} {k : Int64 → Prop} (h : pj_gL L i k) : ∃ x, L[i]? = some (some (.long x)) ∧ k x := by
  unfold pj_gL at h
  rcases e : L[i]? with _ | _ | v
  · rw [e] at h; exact h.elim
  · rw [e] at h; exact h.elim
  · rw [e] at h
    cases v <;> first | exact ⟨_, rfl, h⟩ | exact h.elim
theorem pj_gR_e {L : pj_L} {i : Nat} {k : Nat → Prop} (h : pj_gR L i k) : ∃ x, L[i]? = some (some (.ref x)) ∧ k x := by
  unfold pj_gR at h
  rcases e : L[i]? with _ | _ | v
  · rw [e] at h; exact h.elim
  · rw [e] at h; exact h.elim
  · rw [e] at h
    cases v <;> first | exact ⟨_, rfl, h⟩ | exact h.elim
/-- the length of an instruction -/
def pj_len : Instr → Nat
  | .aload _ => 2
  | .iload _ => 2
  | .lload _ => 2
  | .astore _ => 2
  | .istore _ => 2
  | .lstore _ => 2
  | .iinc _ _ => 3
  | .bipush _ => 2
  | .sipush _ => 3
  | .ldc _ => 2
  | .ldc_w _ => 3
  | .ldc2_w _ => 3
  | .if_icmp _ _ => 3
  | .ifCond _ _ => 3
  | .goto _ => 3
  | .getfield _ => 3
  | .putfield _ => 3
  | .newarray _ => 2
  | .anewarray _ => 3
  | .multianewarray _ _ => 4
  | .new _ => 3
  | .invokevirtual _ => 3
  | .invokespecial _ => 3
  | .invokestatic _ => 3
  | _ => 1
def pj_fin (ci slot : Nat) : Bool := match pj_cl[ci]? with
  | none => true
  | some r => (r.2.1 slot).2.2.2
def pj_isS : Instr → Bool
  | .tableswitch _ _ _ _ => true
  | .lookupswitch _ _ => true
  | _ => false
/-- the rows of a switch, as the instruction tells them -/
def pj_swT (pc : Nat) (lo : Int) : List Int → List (Int32 × Nat)
  | [] => []
  | o :: os => (Int32.ofInt lo, ((pc : Int) + o).toNat) :: pj_swT pc (lo + 1) os
def pj_swL (pc : Nat) : List (Int × Int) → List (Int32 × Nat)
  | [] => []
  | o :: os => (Int32.ofInt o.1, ((pc : Int) + o.2).toNat) :: pj_swL pc os
/-- a call's numbers fit the method -/
noncomputable def pj_okV (kind x y z : Nat) : Bool := match Nat.ble 1000 x with
  | true => true
  | false => (match tm x with
    | none => false
    | some t => Nat.beq (mp x).2 kind && Nat.beq y ((mp x).1 + (match kind with
      | 1 => 0
      | _ => 1)) && (Nat.beq kind 1 || Nat.beq z t.2.1.1) && (Nat.beq kind 2 || (Nat.beq (ta x).1 0 && Nat.beq (ta x).2 0)))
/-- an instruction's row is in order -/
noncomputable def pj_okE (own : Nat) (ini : Bool) (rk : Nat) (pc : Nat) (e : pj_E) : Bool :=
  Nat.beq e.2.2.1 (pc + e.2.1) && (pj_isS e.1 || Nat.beq e.2.1 (pj_len e.1)) && (match e.1 with
  | .iconst v => decide (Int32.ofInt v = e.2.2.2.2.1)
  | .bipush v => decide ((Int8.ofInt v).toInt32 = e.2.2.2.2.1)
  | .sipush v => decide ((Int16.ofInt v).toInt32 = e.2.2.2.2.1)
  | .iinc _ v => decide (Int32.ofInt v = e.2.2.2.2.1)
  | .lconst v => decide (Int64.ofNat v.val = e.2.2.2.2.2.1)
  | .ldc k => (match e.2.2.2.1.2.2 with
    | 0 => cpI.any fun q => Nat.beq q.1 own && Nat.beq q.2.1 k && decide (q.2.2.1 = e.2.2.2.2.1)
    | _ => Nat.beq own 6 && Nat.beq k 38)
  | .ldc_w k => cpI.any fun q => Nat.beq q.1 own && Nat.beq q.2.1 k && decide (q.2.2.1 = e.2.2.2.2.1)
  | .ldc2_w k => cpL.any fun q => Nat.beq q.1 own && Nat.beq q.2.1 k && decide (q.2.2.1 = e.2.2.2.2.2.1)
  | .goto o => decide ((pc : Int) + o = (e.2.2.2.1.1 : Int))
  | .if_icmp _ o => decide ((pc : Int) + o = (e.2.2.2.1.1 : Int))
  | .ifCond _ o => decide ((pc : Int) + o = (e.2.2.2.1.1 : Int))
  | .getfield k => cpF.any fun q => Nat.beq q.1 own && Nat.beq q.2.1 k && Nat.beq q.2.2.1 e.2.2.2.1.1 && Nat.beq q.2.2.2.1 e.2.2.2.1.2.1 && Nat.beq q.2.2.2.2.1 e.2.2.2.1.2.2
  | .putfield k => cpF.any fun q => Nat.beq q.1 own && Nat.beq q.2.1 k && Nat.beq q.2.2.1 e.2.2.2.1.1 && Nat.beq q.2.2.2.1 e.2.2.2.1.2.1 && Nat.beq q.2.2.2.2.1 e.2.2.2.1.2.2 && (!pj_fin e.2.2.2.1.1 e.2.2.2.1.2.1 || (ini && Nat.beq own e.2.2.2.1.1 && !q.2.2.2.2.2.2))
  | .new k => (cpC.any fun q => Nat.beq q.1 own && Nat.beq q.2.1 k && Nat.beq q.2.2.1 e.2.2.2.1.1) && Nat.beq e.2.2.2.1.2.1 (pj_nf e.2.2.2.1.1) && Nat.blt e.2.2.2.1.1 13
  | .newarray a => (match a with
    | .int => Nat.beq e.2.2.2.1.1 13
    | .long => Nat.beq e.2.2.2.1.1 14
    | .boolean => Nat.beq e.2.2.2.1.1 15
    | _ => false)
  | .anewarray k => Nat.beq own 1 && Nat.beq k 9
  | .multianewarray k d => ((Nat.beq own 2 && Nat.beq k 9) || (Nat.beq own 9 && Nat.beq k 26)) && Nat.beq d 2
  | .invokevirtual k => (cpM.any fun q => Nat.beq q.1 own && Nat.beq q.2.1 k && Nat.beq q.2.2.1 e.2.2.2.1.1) && pj_okV 0 e.2.2.2.1.1 e.2.2.2.1.2.1 e.2.2.2.1.2.2
  | .invokespecial k => (cpM.any fun q => Nat.beq q.1 own && Nat.beq q.2.1 k && Nat.beq q.2.2.1 e.2.2.2.1.1) && pj_okV 2 e.2.2.2.1.1 e.2.2.2.1.2.1 e.2.2.2.1.2.2
  | .invokestatic k => (cpM.any fun q => Nat.beq q.1 own && Nat.beq q.2.1 k && Nat.beq q.2.2.1 e.2.2.2.1.1) && pj_okV 1 e.2.2.2.1.1 e.2.2.2.1.2.1 e.2.2.2.1.2.2
  | .tableswitch d lo hi os => decide ((pc : Int) + d = (e.2.2.2.1.1 : Int)) && decide (e.2.2.2.2.2.2 = pj_swT pc lo os.toList) && decide (hi = lo + os.size - 1) && decide (-1000000 < lo) && decide (hi < 1000000) && os.toList.all (fun o => decide (0 ≤ (pc : Int) + o))
  | .lookupswitch d ps => decide ((pc : Int) + d = (e.2.2.2.1.1 : Int)) && decide (e.2.2.2.2.2.2 = pj_swL pc ps.toList) && (ps.toList.zip (ps.toList.drop 1)).all (fun (a, next) => decide (a.1 < next.1)) && ps.toList.all (fun o => decide (0 ≤ (pc : Int) + o.2) && decide (-1000000 < o.1) && decide (o.1 < 1000000))
  | .ireturn => Nat.beq rk 1 || Nat.beq rk 3
  | .lreturn => Nat.beq rk 2
  | .return_ => Nat.beq rk 0
  | _ => true)
/-- 0 nothing, 1 int, 2 long, 3 boolean -/
def pj_rk : Option FieldType → Nat
  | none => 0
  | some .int => 1
  | some .long => 2
  | some .boolean => 3
  | _ => 9
noncomputable def pj_oM (own : Nat) (ini : Bool) (rk : Nat) (c : Nat × List (Nat × pj_E)) : Bool := c.2.all fun q => pj_okE own ini rk q.1 q.2

theorem pj_lk_mem {pc : Nat} {e : pj_E} : ∀ {c : List (Nat × pj_E)}, pj_lk pc c = some e → (pc, e) ∈ c
  | [], h => by cases h
  | q :: r, h => by
    unfold pj_lk at h
    cases hb : Nat.beq pc q.1 with
    | true =>
      rw [hb] at h
      have h1 : pc = q.1 := Nat.eq_of_beq_eq_true hb
      cases h
      rw [h1]
      exact List.mem_cons_self
    | false =>
      rw [hb] at h
      exact List.mem_cons_of_mem _ (pj_lk_mem h)
theorem pj_at_mem {pc : Nat} {e : pj_E} : ∀ {M : pj_M}, pj_at pc M = some e → ∃ c ∈ M, (pc, e) ∈ c.2
  | [], h => by cases h
  | q :: r, h => by
    unfold pj_at at h
    cases hb : Nat.ble pc q.1 with
    | true =>
      rw [hb] at h
      exact ⟨q, List.mem_cons_self, pj_lk_mem h⟩
    | false =>
      rw [hb] at h
      obtain ⟨c, h1, h2⟩ := pj_at_mem h
      exact ⟨c, List.mem_cons_of_mem _ h1, h2⟩
end
section
/-! instructions of locals, stack, numbers, branches -/
theorem pj_len_of {i : Instr} {len : Nat} (h : (pj_isS i || Nat.beq len (pj_len i)) = true) (hs : pj_isS i = false) : len = pj_len i := by
  rw [hs, Bool.false_or] at h
  exact Nat.eq_of_beq_eq_true h
def pj_okI (e : Nat × Nat × Int32 × Nat) : Bool := decide (tables_1[e.2.2.2]? = some (Cond.constant (cn e.1) e.2.1 e.2.2.1))
def pj_okL (e : Nat × Nat × Int64 × Nat) : Bool := decide (tables_1[e.2.2.2]? = some (Cond.constantLong (cn e.1) e.2.1 e.2.2.1))
set_option maxRecDepth 100000 in
theorem cpI_ok : cpI.all pj_okI = true := by decide +kernel
set_option maxRecDepth 100000 in
theorem cpL_ok : cpL.all pj_okL = true := by decide +kernel
theorem pj_conI {own k : Nat} {w : Int32} (h : (cpI.any fun q => Nat.beq q.1 own && Nat.beq q.2.1 k && decide (q.2.2.1 = w)) = true) : Cond.constant (cn own) k w ∈ pj_tbl := by
  obtain ⟨q, hq, h⟩ := List.any_eq_true.mp h
  simp only [Bool.and_eq_true, decide_eq_true_eq] at h
  obtain ⟨⟨h1, h2⟩, h3⟩ := h
  have e1 := Nat.eq_of_beq_eq_true h1
  have e2 := Nat.eq_of_beq_eq_true h2
  have h4 := List.all_eq_true.mp cpI_ok q hq
  unfold pj_okI at h4
  rw [decide_eq_true_eq, e1, e2, h3] at h4
  exact pj_tb h4
theorem pj_conL {own k : Nat} {w : Int64} (h : (cpL.any fun q => Nat.beq q.1 own && Nat.beq q.2.1 k && decide (q.2.2.1 = w)) = true) : Cond.constantLong (cn own) k w ∈ pj_tbl := by
  obtain ⟨q, hq, h⟩ := List.any_eq_true.mp h
  simp only [Bool.and_eq_true, decide_eq_true_eq] at h
  obtain ⟨⟨h1, h2⟩, h3⟩ := h
  have e1 := Nat.eq_of_beq_eq_true h1
  have e2 := Nat.eq_of_beq_eq_true h2
  have h4 := List.all_eq_true.mp cpL_ok q hq
  unfold pj_okL at h4
  rw [decide_eq_true_eq, e1, e2, h3] at h4
  exact pj_tb h4
section PS
variable {ω : pj_Wd} {p : Program} {l : Launch} {e : Env} {R : Room} {s : State} {m : MethodId} {args : Array Value} {below : List Frame} {meth : Method} {c : Code} {nL : Nat} {QW : State → Prop} {bytes : ByteArray} {own : Nat} {pc : Nat} {L : pj_L} {st : List Value} {Z : pj_Z} {I : Nat → Nat → Int32} {J : Nat → Nat → Int64} {bc bs : Nat}
theorem pj_st1 (X : pj_X ω p R s m args c bytes nL own) {i : Nat} {v : Value} (h : i < L.length) (k : pj_W ω p l e R s m args below meth c nL QW pc (pj_s1 L i v) st Z I J bc bs)
    {pc0 : Nat} {stk : List Value} {H : Heap} {locs : List Loc} {ls : Array Slot} {cells slots : Nat} (g1 : pj_wd ω s Z I J H locs cells) (g2 : cells + bc = R.cells) (g3 : slots + bs = R.slots) (g4 : pj_lr ω ls nL L)
    (row : ∀ (lv lv' : List (Nat × Value)), lv_has ls nL lv → i < nL → (i, pj_cv ω v) :: lv.filter (fun q => !(q.1 == i) && !(q.1 + 1 == i && q.2.category == 2)) = lv' → (∀ ls' : Array Slot, lv_has ls' nL lv' → W p l e R s m args below meth c H locs cells slots QW (F0 m pc ls' (st.map (pj_cv ω)))) → W p l e R s m args below meth c H locs cells slots QW (F0 m pc0 ls stk)) :
    W p l e R s m args below meth c H locs cells slots QW (F0 m pc0 ls stk) := by
  obtain ⟨hl, lv, h1, h2⟩ := g4
  exact row lv _ h1 (by omega) rfl (fun ls' h' => k H locs ls' cells slots g1 g2 g3 (pj_lr_s1 hl h2 v h'))
theorem pj_st2 (X : pj_X ω p R s m args c bytes nL own) {i : Nat} {v : Value} (h : i + 1 < L.length) (k : pj_W ω p l e R s m args below meth c nL QW pc (pj_s2 L i v) st Z I J bc bs)
    {pc0 : Nat} {stk : List Value} {H : Heap} {locs : List Loc} {ls : Array Slot} {cells slots : Nat} (g1 : pj_wd ω s Z I J H locs cells) (g2 : cells + bc = R.cells) (g3 : slots + bs = R.slots) (g4 : pj_lr ω ls nL L)
    (row : ∀ (lv lv' : List (Nat × Value)), lv_has ls nL lv → i + 1 < nL → (i, pj_cv ω v) :: lv.filter (fun q => !(q.1 == i) && (!(q.1 == i + 1) && !(q.1 + 1 == i && q.2.category == 2))) = lv' → (∀ ls' : Array Slot, lv_has ls' nL lv' → W p l e R s m args below meth c H locs cells slots QW (F0 m pc ls' (st.map (pj_cv ω)))) → W p l e R s m args below meth c H locs cells slots QW (F0 m pc0 ls stk)) :
    W p l e R s m args below meth c H locs cells slots QW (F0 m pc0 ls stk) := by
  obtain ⟨hl, lv, h1, h2⟩ := g4
  exact row lv _ h1 (by omega) rfl (fun ls' h' => k H locs ls' cells slots g1 g2 g3 (pj_lr_s2 hl h2 v h'))
theorem pj_iinc (X : pj_X ω p R s m args c bytes nL own) {i : Nat} {n : Int} {w x : Int32} (hd : decode bytes pc = .ok (.iinc i n, 3)) (hw : Int32.ofInt n = w) (hx : L[i]? = some (some (.int x))) (k : pj_W ω p l e R s m args below meth c nL QW (pc + 3) (pj_s1 L i (.int (x + w))) st Z I J bc bs) :
    pj_W ω p l e R s m args below meth c nL QW pc L st Z I J bc bs := by
  intro H locs ls cells slots g1 g2 g3 g4
  have hi : i < L.length := by
    rcases Nat.lt_or_ge i L.length with h | h
    · exact h
    · rw [List.getElem?_eq_none h] at hx; cases hx
  obtain ⟨hl, lv, h1, h2⟩ := g4
  obtain ⟨k0, hk0⟩ := List.mem_iff_getElem?.mp (h2 i _ hx)
  exact lv_iinc X.1 X.2.1 hd h1 hk0 (by rw [hw]) (by omega) rfl (fun ls' h' => k H locs ls' cells slots g1 g2 g3 (pj_lr_s1 hl h2 (.int (x + w)) h'))
/-- a switch by rows: the walk at the row's place or at the default one -/
theorem pj_sw_tab {x : Int32} {d : Nat} {k : Nat → Prop} : ∀ (os : List Int) (lo : Int), -1000000 < lo → lo + os.length < 1000000 + 1 → pj_sw x (pj_swT pc lo os) d k →
    ((x.toInt < lo ∨ lo + os.length - 1 < x.toInt) → k d) ∧ (∀ o, ¬ x.toInt < lo → os[(x.toInt - lo).toNat]? = some o → k ((pc : Int) + o).toNat)
  | [], lo, h1, h2, h => ⟨fun _ => h, fun o _ e => by simp at e⟩
  | o :: os, lo, h1, h2, h => by
    have e0 : (Int32.ofInt lo).toInt = lo := Int32.toInt_ofInt_of_le (by omega) (by rw [List.length_cons] at h2; omega)
    have h : (x = Int32.ofInt lo → k ((pc : Int) + o).toNat) ∧ (¬ x = Int32.ofInt lo → pj_sw x (pj_swT pc (lo + 1) os) d k) := h
    rw [List.length_cons] at h2
    by_cases hx : x = Int32.ofInt lo
    · have hx2 : x.toInt = lo := by rw [hx, e0]
      refine ⟨fun q => ?_, fun o' _ e => ?_⟩
      · rw [List.length_cons] at q
        omega
      · rw [hx2, show (lo - lo).toNat = 0 by omega, List.getElem?_cons_zero] at e
        cases e
        exact h.1 hx
    · have hx2 : x.toInt ≠ lo := fun q => hx (Int32.toInt_inj.mp (by rw [e0]; exact q))
      obtain ⟨a, b⟩ := pj_sw_tab os (lo + 1) (by omega) (by omega) (h.2 hx)
      refine ⟨fun q => a (by rw [List.length_cons] at q; omega), fun o' q e => ?_⟩
      have hp : (x.toInt - lo).toNat = (x.toInt - (lo + 1)).toNat + 1 := by omega
      rw [hp, List.getElem?_cons_succ] at e
      exact b o' (by omega) e
theorem pj_sw_lok {x : Int32} {d : Nat} {k : Nat → Prop} : ∀ (ps : List (Int × Int)) (D : Int), (∀ o ∈ ps, -1000000 < o.1 ∧ o.1 < 1000000 ∧ 0 ≤ (pc : Int) + o.2) → (pc : Int) + D = (d : Int) → pj_sw x (pj_swL pc ps) d k →
    ∃ t : Nat, (pc : Int) + Op.lookupswitch.offset ps D x.toInt = (t : Int) ∧ k t
  | [], D, h1, h2, h => ⟨d, by simpa [Op.lookupswitch.offset] using h2, h⟩
  | o :: os, D, h1, h2, h => by
    obtain ⟨b1, b2, b3⟩ := h1 o List.mem_cons_self
    have e0 : (Int32.ofInt o.1).toInt = o.1 := Int32.toInt_ofInt_of_le (by omega) (by omega)
    have h : (x = Int32.ofInt o.1 → k ((pc : Int) + o.2).toNat) ∧ (¬ x = Int32.ofInt o.1 → pj_sw x (pj_swL pc os) d k) := h
    by_cases hx : x = Int32.ofInt o.1
    · have hx2 : x.toInt = o.1 := by rw [hx, e0]
      refine ⟨((pc : Int) + o.2).toNat, ?_, h.1 hx⟩
      obtain ⟨o1, o2⟩ := o
      have hx2 : x.toInt = o1 := hx2
      rw [show Op.lookupswitch.offset ((o1, o2) :: os) D x.toInt = o2 by simp [Op.lookupswitch.offset, hx2]]
      have b3 : 0 ≤ (pc : Int) + o2 := b3
      show (pc : Int) + o2 = (((pc : Int) + o2).toNat : Int)
      omega
    · obtain ⟨t, q1, q2⟩ := pj_sw_lok os D (fun o ho => h1 o (List.mem_cons_of_mem _ ho)) h2 (h.2 hx)
      refine ⟨t, ?_, q2⟩
      obtain ⟨o1, o2⟩ := o
      rw [lv_osw (k := Int32.ofInt o1) hx e0]
      exact q1
end PS
end
section
/-! instructions of fields and arrays -/
theorem pj_cls {ci : Nat} {r : vw_C} (h : pj_cl[ci]? = some r) : ci < 13 ∧ (∀ w ∈ u_ws r.1 r.2.1 r.2.2, w ∈ pj_tbl) ∧ (∀ k, k < r.2.2 → parseFieldDescriptor (r.2.1 k).2.2.1 = some (pj_ty ci k)) ∧ (∀ a, a < r.2.2 → ∀ b, b < r.2.2 → a ≠ b → (r.2.1 a).2.1 ≠ (r.2.1 b).2.1) ∧ pj_nf ci = r.2.2 ∧ Cond.instantiable r.1 r.2.2 ∈ pj_tbl ∧ Cond.initialized r.1 ∈ pj_tbl ∧ r.1 = cn ci := by
  have hlt : ci < 13 := (List.getElem?_eq_some_iff.mp h).1
  have h1 := List.all_eq_true.mp pj_okC_all ci (List.mem_range.mpr hlt)
  unfold pj_okC at h1
  rw [h] at h1
  simp only [Bool.and_eq_true, List.all_eq_true, decide_eq_true_eq, List.mem_range, Bool.or_eq_true] at h1
  obtain ⟨⟨⟨⟨⟨⟨a1, a2⟩, a3⟩, a4⟩, a5⟩, a6⟩, a7⟩ := h1
  refine ⟨hlt, fun w hw => pj_tm (a1 w hw).1 (a1 w hw).2, a2, fun a ha b hb hab => ?_, Nat.eq_of_beq_eq_true a4, pj_tm a5 rfl, pj_tm a6 rfl, a7⟩
  rcases a3 a ha b hb with q | q
  · exact absurd q hab
  · exact q
/-- an entry of a field, with its words -/
theorem pj_fld {own k x y z : Nat} (h : (cpF.any fun q => Nat.beq q.1 own && Nat.beq q.2.1 k && Nat.beq q.2.2.1 x && Nat.beq q.2.2.2.1 y && Nat.beq q.2.2.2.2.1 z) = true) :
    ∃ r : vw_C, pj_cl[x]? = some r ∧ y < r.2.2 ∧ (r.2.1 y).1 = r.1 ∧ pj_ft x y = z ∧ (Cond.fieldLink (cn own) k r.1 (r.2.1 y).2.1 (r.2.1 y).2.2.1 ∈ pj_tbl ∨ Cond.fieldLinkNest (cn own) k r.1 (r.2.1 y).2.1 (r.2.1 y).2.2.1 "PegCoats" ∈ pj_tbl) := by
  obtain ⟨q, hq, h⟩ := List.any_eq_true.mp h
  simp only [Bool.and_eq_true] at h
  obtain ⟨⟨⟨⟨h1, h2⟩, h3⟩, h4⟩, h5⟩ := h
  have e1 := Nat.eq_of_beq_eq_true h1
  have e2 := Nat.eq_of_beq_eq_true h2
  have e3 := Nat.eq_of_beq_eq_true h3
  have e4 := Nat.eq_of_beq_eq_true h4
  have e5 := Nat.eq_of_beq_eq_true h5
  have h6 := List.all_eq_true.mp cpF_ok q hq
  obtain ⟨q1, q2, q3, q4, q5, q6, q7⟩ := q
  dsimp only at e1 e2 e3 e4 e5
  subst e1; subst e2; subst e3; subst e4; subst e5
  unfold pj_okF at h6
  dsimp only at h6
  cases hr : pj_cl[q3]? with
  | none => rw [hr] at h6; cases h6
  | some r =>
    rw [hr] at h6
    dsimp only at h6
    simp only [Bool.and_eq_true, decide_eq_true_eq] at h6
    obtain ⟨⟨⟨a1, a2⟩, a3⟩, a4⟩ := h6
    refine ⟨r, rfl, a1, a2, a3, ?_⟩
    cases q7 with
    | false =>
      rw [decide_eq_true_eq] at a4
      exact Or.inl (pj_tb a4)
    | true =>
      rw [decide_eq_true_eq] at a4
      exact Or.inr (pj_tb a4)
section PH
variable {ω : pj_Wd} {p : Program} {l : Launch} {e : Env} {R : Room} {s : State} {m : MethodId} {args : Array Value} {below : List Frame} {meth : Method} {c : Code} {nL : Nat} {QW : State → Prop} {bytes : ByteArray} {own : Nat} {pc : Nat} {Z Z' : pj_Z} {I I' : Nat → Nat → Int32} {J J' : Nat → Nat → Int64} {H H1 : Heap} {locs locs1 : List Loc} {ls : Array Slot} {cells slots : Nat} {rest : List Value}
theorem pj_we_obj {a ci : Nat} (h : Z.2.1 a = ci) (hc : ci < 13) : pj_we ω Z I J a = .inr (ci, (List.range (pj_nf ci)).map (pj_fv ω Z I J ci a)) := by
  unfold pj_we
  rw [h]
  split <;> first | omega | rfl
theorem pj_we_13 {a : Nat} (h : Z.2.1 a = 13) : pj_we ω Z I J a = .inl (ω.2.1 0, Z.2.2.1 a, .inl (I a)) := by unfold pj_we; rw [h]; rfl
theorem pj_we_14 {a : Nat} (h : Z.2.1 a = 14) : pj_we ω Z I J a = .inl (ω.2.1 1, Z.2.2.1 a, .inr (.inl (J a))) := by unfold pj_we; rw [h]; rfl
theorem pj_we_15 {a : Nat} (h : Z.2.1 a = 15) : pj_we ω Z I J a = .inl (ω.2.1 2, Z.2.2.1 a, .inl (I a)) := by unfold pj_we; rw [h]; rfl
theorem pj_we_16 {a : Nat} (h : Z.2.1 a = 16) : pj_we ω Z I J a = .inl (ω.2.1 3, Z.2.2.1 a, .inr (.inr (.inr (.inr fun j => (Z.2.2.2 a j).map (pj_ad ω))))) := by unfold pj_we; rw [h]; rfl
theorem pj_we_17 {a : Nat} (h : Z.2.1 a = 17) : pj_we ω Z I J a = .inl (ω.2.1 4, Z.2.2.1 a, .inr (.inr (.inr (.inr fun j => (Z.2.2.2 a j).map (pj_ad ω))))) := by unfold pj_we; rw [h]; rfl
/-- a cell of the world, by its number -/
theorem pj_cell (g : pj_wd ω s Z I J H locs cells) {a ci : Nat} (h : Z.2.1 a = ci) (hc : ci < 18) : ∃ k, a = k + 2 ∧ k + 2 < Z.1 ∧ (pj_wl ω Z I J)[k]? = some (pj_ad ω a, pj_we ω Z I J a) := by
  obtain ⟨k, rfl, hk⟩ := pj_wf_in g.1 h hc
  exact ⟨k, rfl, hk, pj_wl_get hk⟩
theorem pj_get (X : pj_X ω p R s m args c bytes nL own) {k x y z : Nat} (hd : decode bytes pc = .ok (.getfield k, 3)) (hF : (cpF.any fun q => Nat.beq q.1 own && Nat.beq q.2.1 k && Nat.beq q.2.2.1 x && Nat.beq q.2.2.2.1 y && Nat.beq q.2.2.2.2.1 z) = true)
    {a : Nat} (ha : Z.2.1 a = x) (g : pj_wd ω s Z I J H locs cells) (kk : pj_ft x y = z → W p l e R s m args below meth c H locs cells slots QW (F0 m (pc + 3) ls (pj_fv ω Z I J x a y :: rest))) :
    W p l e R s m args below meth c H locs cells slots QW (F0 m pc ls (.ref (pj_ad ω a) :: rest)) := by
  obtain ⟨r, hr, hy, hsame, hft, hl⟩ := pj_fld hF
  obtain ⟨hx, hin, -, -, hnf, -⟩ := pj_cls hr
  obtain ⟨q0, rfl, hq, he⟩ := pj_cell g ha (by omega)
  rw [pj_we_obj ha hx] at he
  have hv : ((List.range (pj_nf x)).map (pj_fv ω Z I J x (q0 + 2)))[y]? = some (pj_fv ω Z I J x (q0 + 2) y) := by
    rw [List.getElem?_map, List.getElem?_range (by omega)]
    rfl
  have hs2 : ∀ x, s.fieldFound? (r.2.1 y).1 (r.2.1 y).2.1 (r.2.1 y).2.2.1 = some x → s.fieldFound? r.1 (r.2.1 y).2.1 (r.2.1 y).2.2.1 = some x := fun x h => by rw [← hsame]; exact h
  rcases hl with hl | hl
  · exact va_get (C := r.1) (T := r.2.1) (N := r.2.2) (ref := r.1) X.1 X.2.1 X.2.2.2.2.1 hin X.2.2.2.1 X.2.2.2.2.2.1 g.2.1 q0 he hr y hy (X.2.2.2.2.1 _ hl) hs2 hv hd (kk hft)
  · exact va_getN (C := r.1) (T := r.2.1) (N := r.2.2) (ref := r.1) X.1 X.2.1 X.2.2.2.2.1 hin X.2.2.2.1 X.2.2.2.2.2.1 g.2.1 q0 he hr y hy (X.2.2.2.2.1 _ hl) hs2 hv hd (kk hft)
/-- the world behind a store -/
theorem pj_wd_set (g : pj_wd ω s Z I J H locs cells) {k : Nat} {el : va_E} (hk : k + 2 < Z.1) (hw : pj_we ω Z' I' J' (k + 2) = el) (ho : ∀ j, j ≠ k + 2 → pj_we ω Z' I' J' j = pj_we ω Z I J j) (hn : Z'.1 = Z.1) (hwf : pj_wf Z') (h0 : Z'.2.2.1 0 = Z.2.2.1 0) (h1 : I' 0 = I 0)
    (hP : va_P ω.1 pj_cl ((pj_wl ω Z I J).set k (ω.2.2.2.2.1 + k, el)) H1) (hS : va_S (fun x => ω.2.2.2.2.1 ≤ x) s.heap H1 locs1) : pj_wd ω s Z' I' J' H1 locs1 cells := by
  obtain ⟨g1, g2, g3, g4, g5, g6⟩ := g
  refine ⟨hwf, ?_, by rw [hn]; exact g3, hS, by rw [h0]; exact g5, by rw [h1]; exact g6⟩
  rw [pj_wl_set hk hn ho, hw]
  exact hP
theorem pj_put (X : pj_X ω p R s m args c bytes nL own) {ini : Bool} (hini : ini = true → meth.name = "<init>") {k x y z : Nat} (hd : decode bytes pc = .ok (.putfield k, 3))
    (hF : (cpF.any fun q => Nat.beq q.1 own && Nat.beq q.2.1 k && Nat.beq q.2.2.1 x && Nat.beq q.2.2.2.1 y && Nat.beq q.2.2.2.2.1 z && (!pj_fin x y || (ini && Nat.beq own x && !q.2.2.2.2.2.2))) = true)
    {a : Nat} (ha : Z.2.1 a = x) (g : pj_wd ω s Z I J H locs cells) {v : Value} (hv : narrow (pj_ty x y) v = v ∧ fits (pj_ty x y) v = true)
    (hnew : pj_ft x y = z → ∀ j, pj_fv ω Z' I' J' x a j = if j = y then v else pj_fv ω Z I J x a j)
    (hZ : Z'.1 = Z.1 ∧ Z'.2.1 = Z.2.1 ∧ Z'.2.2.1 = Z.2.2.1) (ho : ∀ j, j ≠ a → pj_we ω Z' I' J' j = pj_we ω Z I J j) (h1 : I' 0 = I 0)
    (kk : ∀ H1 locs1, pj_wd ω s Z' I' J' H1 locs1 cells → W p l e R s m args below meth c H1 locs1 cells slots QW (F0 m (pc + 3) ls rest)) :
    W p l e R s m args below meth c H locs cells slots QW (F0 m pc ls (v :: .ref (pj_ad ω a) :: rest)) := by
  have hF2 : (cpF.any fun q => Nat.beq q.1 own && Nat.beq q.2.1 k && Nat.beq q.2.2.1 x && Nat.beq q.2.2.2.1 y && Nat.beq q.2.2.2.2.1 z) = true := by
    obtain ⟨q, hq, h⟩ := List.any_eq_true.mp hF
    rw [Bool.and_eq_true] at h
    exact List.any_eq_true.mpr ⟨q, hq, h.1⟩
  obtain ⟨r, hr, hy, hsame, hft, hl⟩ := pj_fld hF2
  obtain ⟨hx, hin, hty, hnm, hnf, -, -, hcn⟩ := pj_cls hr
  have hz := hv
  have hd2 := hty y hy
  obtain ⟨q0, rfl, hq, he⟩ := pj_cell g ha (by omega)
  rw [pj_we_obj ha hx] at he
  have hs2 : ∀ x, s.fieldFound? (r.2.1 y).1 (r.2.1 y).2.1 (r.2.1 y).2.2.1 = some x → s.fieldFound? r.1 (r.2.1 y).2.1 (r.2.1 y).2.2.1 = some x := fun x h => by rw [← hsame]; exact h
  have hlen : y < ((List.range (pj_nf x)).map (pj_fv ω Z I J x (q0 + 2))).length := by rw [List.length_map, List.length_range]; omega
  have hw : pj_we ω Z' I' J' (q0 + 2) = .inr (x, ((List.range (pj_nf x)).map (pj_fv ω Z I J x (q0 + 2))).set y v) := by
    rw [pj_we_obj (by rw [hZ.2.1]; exact ha) hx]
    congr 2
    refine List.ext_getElem? (fun j => ?_)
    rw [List.getElem?_set, List.getElem?_map, List.getElem?_map]
    by_cases hj : j < pj_nf x
    · rw [List.getElem?_range hj]
      show some (pj_fv ω Z' I' J' x (q0 + 2) j) = _
      rw [hnew hft j]
      by_cases hjy : y = j
      · subst hjy
        rw [if_pos rfl, if_pos rfl, if_pos hlen]
      · rw [if_neg (fun q => hjy q.symm), if_neg hjy]
        rfl
    · have hn0 : (List.range (pj_nf x))[j]? = none := List.getElem?_eq_none (by rw [List.length_range]; omega)
      rw [hn0, if_neg (by omega)]
      rfl
  have hwf : pj_wf Z' := by
    obtain ⟨w1, w2, w3, w4⟩ := g.1
    exact ⟨by rw [hZ.1]; exact w1, by rw [hZ.2.1]; exact w2, by rw [hZ.2.1]; exact w3, fun k hk => by rw [hZ.2.1]; exact w4 k (by rw [← hZ.1]; exact hk)⟩
  have fin := fun H1 locs1 hP hS => kk H1 locs1 (pj_wd_set (H1 := H1) (locs1 := locs1) g hq hw ho hZ.1 hwf (by rw [hZ.2.2]) h1 hP hS)
  by_cases hfi : (r.2.1 y).2.2.2 = true
  · obtain ⟨q, hqm, h⟩ := List.any_eq_true.mp hF
    simp only [Bool.and_eq_true, Bool.or_eq_true, Bool.not_eq_true'] at h
    obtain ⟨⟨⟨⟨⟨b1, b2⟩, b3⟩, b4⟩, b5⟩, b6⟩ := h
    have hpf : pj_fin x y = true := by unfold pj_fin; rw [hr]; exact hfi
    rcases b6 with b6 | b6
    · rw [hpf] at b6; cases b6
    obtain ⟨⟨c1, c2⟩, c3⟩ := b6
    have e1 := Nat.eq_of_beq_eq_true b1
    have e2 := Nat.eq_of_beq_eq_true b2
    have e3 := Nat.eq_of_beq_eq_true b3
    have e4 := Nat.eq_of_beq_eq_true b4
    have e5 := Nat.eq_of_beq_eq_true b5
    have h6 := List.all_eq_true.mp cpF_ok q hqm
    obtain ⟨q1, q2, q3, q4, q5, q6, q7⟩ := q
    dsimp only at e1 e2 e3 e4 e5 c3
    subst e1; subst e2; subst e3; subst e4; subst e5; subst c3
    unfold pj_okF at h6
    dsimp only at h6
    rw [hr] at h6
    dsimp only at h6
    simp only [Bool.and_eq_true, decide_eq_true_eq] at h6
    have hl := pj_tb h6.2
    have ho2 : (r.2.1 q4).1 = cn q1 := by rw [hsame, hcn, Nat.eq_of_beq_eq_true c2]
    exact va_putF (C := r.1) (T := r.2.1) (N := r.2.2) (ref := r.1) X.1 X.2.1 X.2.2.2.2.1 hin (pj_ty q3) hty hnm X.2.2.2.1 X.2.2.2.2.2.1 g.2.1 pj_wl_D g.2.2.2.1 q0 he hr q4 hy (X.2.2.2.2.1 _ hl) hs2 hfi (hini c1) ho2 hd2 hz.1 hz.2 hlen hd (fun H1 locs1 hP _ hS => fin H1 locs1 hP hS)
  · have hfi : (r.2.1 y).2.2.2 = false := by cases h : (r.2.1 y).2.2.2 <;> first | rfl | exact absurd h hfi
    rcases hl with hl | hl
    · exact va_put (C := r.1) (T := r.2.1) (N := r.2.2) (ref := r.1) X.1 X.2.1 X.2.2.2.2.1 hin (pj_ty x) hty hnm X.2.2.2.1 X.2.2.2.2.2.1 g.2.1 pj_wl_D g.2.2.2.1 q0 he hr y hy (X.2.2.2.2.1 _ hl) hs2 hfi hd2 hz.1 hz.2 hlen hd (fun H1 locs1 hP _ hS => fin H1 locs1 hP hS)
    · exact va_putN (C := r.1) (T := r.2.1) (N := r.2.2) (ref := r.1) X.1 X.2.1 X.2.2.2.2.1 hin (pj_ty x) hty hnm X.2.2.2.1 X.2.2.2.2.2.1 g.2.1 pj_wl_D g.2.2.2.1 q0 he hr y hy (X.2.2.2.2.1 _ hl) hs2 hfi hd2 hz.1 hz.2 hlen hd (fun H1 locs1 hP _ hS => fin H1 locs1 hP hS)
end PH
end
section
/-! instructions of arrays, and what makes cells -/
section PA
variable {ω : pj_Wd} {p : Program} {l : Launch} {e : Env} {R : Room} {s : State} {m : MethodId} {args : Array Value} {below : List Frame} {meth : Method} {c : Code} {nL : Nat} {QW : State → Prop} {bytes : ByteArray} {own : Nat} {pc : Nat} {Z Z' : pj_Z} {I I' : Nat → Nat → Int32} {J J' : Nat → Nat → Int64} {H H1 : Heap} {locs locs1 : List Loc} {ls : Array Slot} {cells slots : Nat} {rest : List Value}
theorem pj_t0 : (pj_tys ω)[0]? = some (ω.2.1 0, .int) := rfl
theorem pj_t1 : (pj_tys ω)[1]? = some (ω.2.1 1, .long) := rfl
theorem pj_t2 : (pj_tys ω)[2]? = some (ω.2.1 2, .boolean) := rfl
theorem pj_t3 : (pj_tys ω)[3]? = some (ω.2.1 3, .object "PegCoats$State") := rfl
theorem pj_t4 : (pj_tys ω)[4]? = some (ω.2.1 4, .array .int) := rfl
theorem pj_ial (X : pj_X ω p R s m args c bytes nL own) {a : Nat} {i : Int32} (hd : decode bytes pc = .ok (.iaload, 1)) (ha : Z.2.1 a = 13 ∨ Z.2.1 a = 18) (hi : vp_in i (Z.2.2.1 a)) (g : pj_wd ω s Z I J H locs cells)
    (kk : W p l e R s m args below meth c H locs cells slots QW (F0 m (pc + 1) ls (.int (I a i.toNatClampNeg) :: rest))) : W p l e R s m args below meth c H locs cells slots QW (F0 m pc ls (.int i :: .ref (pj_ad ω a) :: rest)) := by
  rcases ha with ha | ha
  · obtain ⟨q0, rfl, hq, he⟩ := pj_cell g ha (by omega)
    rw [pj_we_13 ha] at he
    exact va_iald X.1 X.2.1 X.2.2.2.2.2.1 g.2.1 q0 0 he pj_t0 hi hd kk
  · have h0 : a = 0 := by
      obtain ⟨w1, w2, w3, w4⟩ := g.1
      rcases a with _ | _ | k
      · rfl
      · have w3 : Z.2.1 (0 + 1) = 19 := w3
        omega
      · exfalso
        rcases Nat.lt_or_ge (k + 2) Z.1 with hk | hk
        · have hw := g.2.1 k _ (pj_wl_get hk)
          have hu : pj_we ω Z I J (k + 2) = .inr (18, (List.range (pj_nf 18)).map (pj_fv ω Z I J 18 (k + 2))) := by
            unfold pj_we
            rw [show Z.2.1 (k + 2) = 18 from ha]
            rfl
          rw [hu] at hw
          obtain ⟨r, hr, -⟩ := hw
          have := (List.getElem?_eq_some_iff.mp hr).1
          have h13 : pj_cl.length = 13 := rfl
          have this : 18 < pj_cl.length := this
          omega
        · have := w4 (k + 2) hk
          have ha : Z.2.1 (k + 2) = 18 := ha
          omega
    subst h0
    obtain ⟨hX, hb1, hb2⟩ := X.2.2.2.2.2.2.2.1
    have e1 : I 0 i.toNatClampNeg = ω.2.2.2.2.2.2 i.toNatClampNeg := by rw [g.2.2.2.2.2]
    rw [e1] at kk
    rw [g.2.2.2.2.1] at hi
    exact va_sld (A := fun x => ω.2.2.2.2.1 ≤ x) X.1 X.2.1 hX hb2 (Nat.not_le.mpr hb1) g.2.2.2.1 hi hd kk
theorem pj_lal (X : pj_X ω p R s m args c bytes nL own) {a : Nat} {i : Int32} (hd : decode bytes pc = .ok (.laload, 1)) (ha : Z.2.1 a = 14) (hi : vp_in i (Z.2.2.1 a)) (g : pj_wd ω s Z I J H locs cells)
    (kk : W p l e R s m args below meth c H locs cells slots QW (F0 m (pc + 1) ls (.long (J a i.toNatClampNeg) :: rest))) : W p l e R s m args below meth c H locs cells slots QW (F0 m pc ls (.int i :: .ref (pj_ad ω a) :: rest)) := by
  obtain ⟨q0, rfl, hq, he⟩ := pj_cell g ha (by omega)
  rw [pj_we_14 ha] at he
  exact va_lald X.1 X.2.1 X.2.2.2.2.2.1 g.2.1 q0 1 he pj_t1 hi hd kk
theorem pj_bal (X : pj_X ω p R s m args c bytes nL own) {a : Nat} {i : Int32} (hd : decode bytes pc = .ok (.baload, 1)) (ha : Z.2.1 a = 15) (hi : vp_in i (Z.2.2.1 a)) (g : pj_wd ω s Z I J H locs cells)
    (kk : W p l e R s m args below meth c H locs cells slots QW (F0 m (pc + 1) ls (.int (I a i.toNatClampNeg) :: rest))) : W p l e R s m args below meth c H locs cells slots QW (F0 m pc ls (.int i :: .ref (pj_ad ω a) :: rest)) := by
  obtain ⟨q0, rfl, hq, he⟩ := pj_cell g ha (by omega)
  rw [pj_we_15 ha] at he
  exact va_zald X.1 X.2.1 X.2.2.2.2.2.1 g.2.1 q0 2 he pj_t2 hi hd kk
theorem pj_aal (X : pj_X ω p R s m args c bytes nL own) {a : Nat} {i : Int32} (hd : decode bytes pc = .ok (.aaload, 1)) (ha : Z.2.1 a = 16 ∨ Z.2.1 a = 17) (hi : vp_in i (Z.2.2.1 a)) (g : pj_wd ω s Z I J H locs cells)
    (kk : W p l e R s m args below meth c H locs cells slots QW (F0 m (pc + 1) ls (va_rf ((Z.2.2.2 a i.toNatClampNeg).map (pj_ad ω)) :: rest))) : W p l e R s m args below meth c H locs cells slots QW (F0 m pc ls (.int i :: .ref (pj_ad ω a) :: rest)) := by
  have hlt : i.toNatClampNeg < Z.2.2.1 a := Nat.not_le.mp fun q => hi (Or.inr q)
  rcases ha with ha | ha
  · obtain ⟨q0, rfl, hq, he⟩ := pj_cell g ha (by omega)
    rw [pj_we_16 ha] at he
    exact va_aldq X.1 X.2.1 X.2.2.2.2.2.1 g.2.1 q0 3 he pj_t3 hi hd kk
  · obtain ⟨q0, rfl, hq, he⟩ := pj_cell g ha (by omega)
    rw [pj_we_17 ha] at he
    have hK := X.2.2.2.2.2.1
    exact W.aald (v := va_rf ((Z.2.2.2 (q0 + 2) i.toNatClampNeg).map (pj_ad ω))) (ty := .array .int) X.1 X.2.1 (g.2.1 q0 _ he) ((hK.2 4 _ pj_t4).1 (Z.2.2.1 (q0 + 2)) (fun j => va_rf ((Z.2.2.2 (q0 + 2) j).map (pj_ad ω)))) rfl (fun q => by cases q) (by show ¬ (i < 0 ∨ (arrV _ _ _).slots.size ≤ _); rw [arrV_size]; exact hi) (by show (arrV _ _ _).slots[_]? = _; rw [arrV_read _ _ hlt]) rfl rfl hd kk
theorem pj_alen (X : pj_X ω p R s m args c bytes nL own) {a : Nat} (hd : decode bytes pc = .ok (.arraylength, 1)) (h1 : 13 ≤ Z.2.1 a) (h2 : Z.2.1 a ≤ 18) (g : pj_wd ω s Z I J H locs cells)
    (kk : W p l e R s m args below meth c H locs cells slots QW (F0 m (pc + 1) ls (.int (nI (Z.2.2.1 a)) :: rest))) : W p l e R s m args below meth c H locs cells slots QW (F0 m pc ls (.ref (pj_ad ω a) :: rest)) := by
  by_cases h18 : Z.2.1 a = 18
  · have h0 : a = 0 := by
      obtain ⟨w1, w2, w3, w4⟩ := g.1
      rcases a with _ | _ | k
      · rfl
      · have w3 : Z.2.1 (0 + 1) = 19 := w3
        omega
      · exfalso
        rcases Nat.lt_or_ge (k + 2) Z.1 with hk | hk
        · have hw := g.2.1 k _ (pj_wl_get hk)
          have hu : pj_we ω Z I J (k + 2) = .inr (18, (List.range (pj_nf 18)).map (pj_fv ω Z I J 18 (k + 2))) := by
            unfold pj_we
            rw [show Z.2.1 (k + 2) = 18 from h18]
            rfl
          rw [hu] at hw
          obtain ⟨r, hr, -⟩ := hw
          have := (List.getElem?_eq_some_iff.mp hr).1
          have h13 : pj_cl.length = 13 := rfl
          have this : 18 < pj_cl.length := this
          omega
        · have := w4 (k + 2) hk
          have h18 : Z.2.1 (k + 2) = 18 := h18
          omega
    subst h0
    obtain ⟨hX, hb1, hb2⟩ := X.2.2.2.2.2.2.2.1
    rw [g.2.2.2.2.1] at kk
    exact va_slen (A := fun x => ω.2.2.2.2.1 ≤ x) X.1 X.2.1 hX hb2 (Nat.not_le.mpr hb1) g.2.2.2.1 hd kk
  · obtain ⟨q0, rfl, hq, he⟩ := pj_cell (a := a) g rfl (by omega)
    have hc : Z.2.1 (q0 + 2) = 13 ∨ Z.2.1 (q0 + 2) = 14 ∨ Z.2.1 (q0 + 2) = 15 ∨ Z.2.1 (q0 + 2) = 16 ∨ Z.2.1 (q0 + 2) = 17 := by omega
    rcases hc with hc | hc | hc | hc | hc
    · rw [pj_we_13 hc] at he; exact va_alen X.1 X.2.1 X.2.2.2.2.2.1 g.2.1 q0 0 he pj_t0 rfl hd kk
    · rw [pj_we_14 hc] at he; exact va_alen X.1 X.2.1 X.2.2.2.2.2.1 g.2.1 q0 1 he pj_t1 rfl hd kk
    · rw [pj_we_15 hc] at he; exact va_alen X.1 X.2.1 X.2.2.2.2.2.1 g.2.1 q0 2 he pj_t2 rfl hd kk
    · rw [pj_we_16 hc] at he; exact va_alen X.1 X.2.1 X.2.2.2.2.2.1 g.2.1 q0 3 he pj_t3 rfl hd kk
    · rw [pj_we_17 hc] at he; exact va_alen X.1 X.2.1 X.2.2.2.2.2.1 g.2.1 q0 4 he pj_t4 rfl hd kk
theorem pj_upd_row {α : Type} (f : Nat → Nat → α) (a k : Nat) (v : α) : pj_u f a k v a = fun j => if j = k then v else f a j := funext fun j => by simp [pj_u]
theorem pj_ne0 (g : pj_wf Z) {a ci : Nat} (ha : Z.2.1 a = ci) (hc : ci < 18) : 0 ≠ a := by
  intro h
  subst h
  have := g.2.1
  omega
theorem pj_ias (X : pj_X ω p R s m args c bytes nL own) {a : Nat} {i x : Int32} (hd : decode bytes pc = .ok (.iastore, 1)) (ha : Z.2.1 a = 13) (hi : vp_in i (Z.2.2.1 a)) (g : pj_wd ω s Z I J H locs cells)
    (kk : ∀ H1 locs1, pj_wd ω s Z (pj_u I a i.toNatClampNeg x) J H1 locs1 cells → W p l e R s m args below meth c H1 locs1 cells slots QW (F0 m (pc + 1) ls rest)) : W p l e R s m args below meth c H locs cells slots QW (F0 m pc ls (.int x :: .int i :: .ref (pj_ad ω a) :: rest)) := by
  have h0 := pj_ne0 g.1 ha (by omega)
  obtain ⟨q0, rfl, hq, he⟩ := pj_cell g ha (by omega)
  rw [pj_we_13 ha] at he
  refine va_iast X.1 X.2.1 X.2.2.2.2.2.1 g.2.1 pj_wl_D g.2.2.2.1 q0 0 he pj_t0 hi hd (fun H1 locs1 hP _ hS => kk H1 locs1 (pj_wd_set g hq ?_ (fun j hj => pj_we_eq rfl rfl rfl (pj_u_fun _ _ _ _ hj) rfl) rfl g.1 rfl (pj_u_fun _ _ _ _ h0) hP hS))
  rw [pj_we_13 ha, pj_upd_row]
  rfl
theorem pj_las (X : pj_X ω p R s m args c bytes nL own) {a : Nat} {i : Int32} {x : Int64} (hd : decode bytes pc = .ok (.lastore, 1)) (ha : Z.2.1 a = 14) (hi : vp_in i (Z.2.2.1 a)) (g : pj_wd ω s Z I J H locs cells)
    (kk : ∀ H1 locs1, pj_wd ω s Z I (pj_u J a i.toNatClampNeg x) H1 locs1 cells → W p l e R s m args below meth c H1 locs1 cells slots QW (F0 m (pc + 1) ls rest)) : W p l e R s m args below meth c H locs cells slots QW (F0 m pc ls (.long x :: .int i :: .ref (pj_ad ω a) :: rest)) := by
  obtain ⟨q0, rfl, hq, he⟩ := pj_cell g ha (by omega)
  rw [pj_we_14 ha] at he
  refine va_last X.1 X.2.1 X.2.2.2.2.2.1 g.2.1 pj_wl_D g.2.2.2.1 q0 1 he pj_t1 hi hd (fun H1 locs1 hP _ hS => kk H1 locs1 (pj_wd_set g hq ?_ (fun j hj => pj_we_eq rfl rfl rfl rfl (pj_u_fun _ _ _ _ hj)) rfl g.1 rfl rfl hP hS))
  rw [pj_we_14 ha, pj_upd_row]
  rfl
theorem pj_bas (X : pj_X ω p R s m args c bytes nL own) {a : Nat} {i x : Int32} (hd : decode bytes pc = .ok (.bastore, 1)) (ha : Z.2.1 a = 15) (hi : vp_in i (Z.2.2.1 a)) (g : pj_wd ω s Z I J H locs cells)
    (kk : ∀ H1 locs1, pj_wd ω s Z (pj_u I a i.toNatClampNeg (x &&& 1)) J H1 locs1 cells → W p l e R s m args below meth c H1 locs1 cells slots QW (F0 m (pc + 1) ls rest)) : W p l e R s m args below meth c H locs cells slots QW (F0 m pc ls (.int x :: .int i :: .ref (pj_ad ω a) :: rest)) := by
  have h0 := pj_ne0 g.1 ha (by omega)
  obtain ⟨q0, rfl, hq, he⟩ := pj_cell g ha (by omega)
  rw [pj_we_15 ha] at he
  refine va_zast X.1 X.2.1 X.2.2.2.2.2.1 g.2.1 pj_wl_D g.2.2.2.1 q0 2 he pj_t2 hi hd (fun H1 locs1 hP _ hS => kk H1 locs1 (pj_wd_set g hq ?_ (fun j hj => pj_we_eq rfl rfl rfl (pj_u_fun _ _ _ _ hj) rfl) rfl g.1 rfl (pj_u_fun _ _ _ _ h0) hP hS))
  rw [pj_we_15 ha, pj_upd_row]
  rfl
theorem pj_aas (X : pj_X ω p R s m args c bytes nL own) {a v : Nat} {i : Int32} (hd : decode bytes pc = .ok (.aastore, 1)) (ha : Z.2.1 a = 16) (hv : Z.2.1 v = 7) (hi : vp_in i (Z.2.2.1 a)) (g : pj_wd ω s Z I J H locs cells)
    (kk : ∀ H1 locs1, pj_wd ω s (Z.1, Z.2.1, Z.2.2.1, pj_u Z.2.2.2 a i.toNatClampNeg (some v)) I J H1 locs1 cells → W p l e R s m args below meth c H1 locs1 cells slots QW (F0 m (pc + 1) ls rest)) : W p l e R s m args below meth c H locs cells slots QW (F0 m pc ls (.ref (pj_ad ω v) :: .int i :: .ref (pj_ad ω a) :: rest)) := by
  obtain ⟨q0, rfl, hq, he⟩ := pj_cell g ha (by omega)
  obtain ⟨q1, rfl, hq1, he1⟩ := pj_cell g hv (by omega)
  rw [pj_we_16 ha] at he
  rw [pj_we_obj hv (by omega)] at he1
  refine va_astq X.1 X.2.1 X.2.2.2.2.2.1 g.2.1 pj_wl_D g.2.2.2.1 q0 3 q1 7 (r := ("PegCoats$State", fT_7, 9)) he pj_t3 he1 rfl hi hd (fun H1 locs1 hP _ hS => kk H1 locs1 (pj_wd_set g hq ?_ (fun j hj => pj_we_eq rfl rfl (pj_u_fun _ _ _ _ hj) rfl rfl) rfl g.1 rfl rfl hP hS))
  rw [pj_we_16 (Z := (Z.1, Z.2.1, Z.2.2.1, pj_u Z.2.2.2 (q0 + 2) i.toNatClampNeg (some (q1 + 2)))) ha]
  congr 7
  funext j
  show Option.map (pj_ad ω) (pj_u Z.2.2.2 (q0 + 2) i.toNatClampNeg (some (q1 + 2)) (q0 + 2) j) = _
  rw [pj_upd_row]
  unfold va_up
  by_cases hj : j = i.toNatClampNeg
  · simp only [hj, if_true, Option.map_some]
  · simp only [hj, if_false]
end PA
end
section
/-! what makes cells; rows copied -/
def pj_okY (ci : Nat) : Bool := (List.range (pj_nf ci)).all fun k => match pj_ty ci k with
  | .int => true
  | .long => true
  | .boolean => true
  | .object _ => true
  | .array _ => true
  | _ => false
theorem pj_okY_all : (List.range 13).all pj_okY = true := by decide +kernel
def pj_okN (e : Nat × Nat × Nat × Nat) : Bool := decide (tables_1[e.2.2.2]? = some (Cond.classLink (cn e.1) e.2.1 (cn e.2.2.1)))
set_option maxRecDepth 100000 in
theorem cpC_ok : cpC.all pj_okN = true := by decide +kernel
theorem pj_clk {own k x : Nat} (h : (cpC.any fun q => Nat.beq q.1 own && Nat.beq q.2.1 k && Nat.beq q.2.2.1 x) = true) : Cond.classLink (cn own) k (cn x) ∈ pj_tbl := by
  obtain ⟨q, hq, h⟩ := List.any_eq_true.mp h
  simp only [Bool.and_eq_true] at h
  obtain ⟨⟨h1, h2⟩, h3⟩ := h
  have h4 := List.all_eq_true.mp cpC_ok q hq
  unfold pj_okN at h4
  rw [decide_eq_true_eq, Nat.eq_of_beq_eq_true h1, Nat.eq_of_beq_eq_true h2, Nat.eq_of_beq_eq_true h3] at h4
  exact pj_tb h4
theorem va_up_at {α : Type} (f : Nat → α) (k : Nat) (v : α) : va_up f k v k = v := by simp [va_up]
theorem va_up_no {α : Type} (f : Nat → α) {k j : Nat} (v : α) (h : j ≠ k) : va_up f k v j = f j := by simp [va_up, h]
section PN
variable {ω : pj_Wd} {p : Program} {l : Launch} {e : Env} {R : Room} {s : State} {m : MethodId} {args : Array Value} {below : List Frame} {meth : Method} {c : Code} {nL : Nat} {QW : State → Prop} {bytes : ByteArray} {own : Nat} {pc : Nat} {Z Z' : pj_Z} {I I' : Nat → Nat → Int32} {J J' : Nat → Nat → Int64} {H H1 : Heap} {locs locs1 : List Loc} {ls : Array Slot} {cells slots : Nat} {rest : List Value}
theorem pj_fresh {q : Nat} {el : va_E} (hP : va_P ω.1 pj_cl (pj_wl ω Z I J ++ [(q, el)]) H1) (hD : va_D (fun x => ω.2.2.2.2.1 ≤ x) (pj_wl ω Z I J ++ [(q, el)])) (hsz : H1.size ≤ ω.2.2.2.2.1 + (Z.1 - 2) + 1) : q = ω.2.2.2.2.1 + (Z.1 - 2) := by
  have hat : (pj_wl ω Z I J ++ [(q, el)])[Z.1 - 2]? = some (q, el) := by
    rw [List.getElem?_append_right (by rw [pj_wl_len]; omega), pj_wl_len, Nat.sub_self]
    rfl
  have h1 : q < H1.size := (hP _ _ hat).lt
  have h2 : ω.2.2.2.2.1 ≤ q := hD.2 _ _ hat
  rcases Nat.lt_or_ge q (ω.2.2.2.2.1 + (Z.1 - 2)) with h3 | h3
  · exfalso
    have hk : (q - ω.2.2.2.2.1) + 2 < Z.1 := by omega
    have hb : (pj_wl ω Z I J ++ [(q, el)])[q - ω.2.2.2.2.1]? = some (ω.2.2.2.2.1 + (q - ω.2.2.2.2.1), pj_we ω Z I J (q - ω.2.2.2.2.1 + 2)) := by
      rw [List.getElem?_append_left (by rw [pj_wl_len]; omega)]
      exact pj_wl_get hk
    have := hD.1 _ _ _ _ hb hat (by show ω.2.2.2.2.1 + (q - ω.2.2.2.2.1) = q; omega)
    omega
  · omega
theorem pj_wd_push {kind len : Nat} (hk : kind < 18) (g : pj_wd ω s Z I J H locs cells) {el : va_E} (hw : pj_we ω (pj_nZ Z kind len) (va_up I Z.1 (fun _ => 0)) (va_up J Z.1 (fun _ => 0)) Z.1 = el)
    (hP : va_P ω.1 pj_cl (pj_wl ω Z I J ++ [(ω.2.2.2.2.1 + (Z.1 - 2), el)]) H1) (hS : va_S (fun x => ω.2.2.2.2.1 ≤ x) s.heap H1 locs) : pj_wd ω s (pj_nZ Z kind len) (va_up I Z.1 (fun _ => 0)) (va_up J Z.1 (fun _ => 0)) H1 locs (cells + 1) := by
  obtain ⟨⟨w1, w2, w3, w4⟩, g2, g3, g4, g5, g6⟩ := g
  have hne : ∀ k, k < Z.1 → k ≠ Z.1 := fun k h => Nat.ne_of_lt h
  refine ⟨⟨by show 2 ≤ Z.1 + 1; omega, ?_, ?_, fun k hk => ?_⟩, ?_, ?_, hS, ?_, ?_⟩
  · show va_up Z.2.1 Z.1 kind 0 = 18
    rw [va_up_no _ _ (hne 0 (by omega))]; exact w2
  · show va_up Z.2.1 Z.1 kind 1 = 19
    rw [va_up_no _ _ (hne 1 (by omega))]; exact w3
  · have hk : Z.1 + 1 ≤ k := hk
    show va_up Z.2.1 Z.1 kind k = 20
    rw [va_up_no _ _ (by omega)]; exact w4 k (by omega)
  · rw [pj_wl_push (Z := Z) (I := I) (J := J) w1 rfl (fun k h => pj_we_eq (va_up_no _ _ (hne k h)) (va_up_no _ _ (hne k h)) (va_up_no _ _ (hne k h)) (va_up_no _ _ (hne k h)) (va_up_no _ _ (hne k h))), hw]
    exact hP
  · show s.heap.size + (cells + 1) = ω.2.2.2.2.1 + (Z.1 + 1 - 2)
    omega
  · show va_up Z.2.2.1 Z.1 len 0 = _
    rw [va_up_no _ _ (hne 0 (by omega))]; exact g5
  · show va_up I Z.1 (fun _ => 0) 0 = _
    rw [va_up_no _ _ (hne 0 (by omega))]; exact g6
theorem pj_adn (h : 2 ≤ Z.1) : ω.2.2.2.2.1 + (Z.1 - 2) = pj_ad ω Z.1 := by
  obtain ⟨k, hk⟩ : ∃ k, Z.1 = k + 2 := ⟨Z.1 - 2, by omega⟩
  rw [hk]
  rfl
theorem pj_newo (X : pj_X ω p R s m args c bytes nL own) {k x y : Nat} (hd : decode bytes pc = .ok (.new k, 3)) (hC : (cpC.any fun q => Nat.beq q.1 own && Nat.beq q.2.1 k && Nat.beq q.2.2.1 x) = true) (hy : y = pj_nf x) (hx : x < 13)
    (g : pj_wd ω s Z I J H locs cells) (hc : cells + 1 ≤ R.cells) (hs : slots + y ≤ R.slots)
    (kk : ∀ H1, pj_wd ω s (pj_nZ Z x 0) (va_up I Z.1 (fun _ => 0)) (va_up J Z.1 (fun _ => 0)) H1 locs (cells + 1) → W p l e R s m args below meth c H1 locs (cells + 1) (slots + y) QW (F0 m (pc + 3) ls (.ref (pj_ad ω Z.1) :: rest))) :
    W p l e R s m args below meth c H locs cells slots QW (F0 m pc ls rest) := by
  obtain ⟨r, hr⟩ : ∃ r, pj_cl[x]? = some r := ⟨pj_cl[x]'hx, List.getElem?_eq_getElem hx⟩
  obtain ⟨-, hin, hty, -, hnf, hinst, hini, hcn⟩ := pj_cls hr
  have hl := pj_clk hC
  rw [← hcn] at hl
  have hkd : (pj_nZ Z x 0).2.1 Z.1 = x := va_up_at _ _ _
  have hfs : ∀ j, j < r.2.2 → defaultValue (pj_ty x j) = vp_V ((List.range (pj_nf x)).map (pj_fv ω (pj_nZ Z x 0) (va_up I Z.1 (fun _ => 0)) (va_up J Z.1 (fun _ => 0)) x Z.1)) j := by
    intro j hj
    have h1 : (((List.range (pj_nf x)).map (pj_fv ω (pj_nZ Z x 0) (va_up I Z.1 (fun _ => 0)) (va_up J Z.1 (fun _ => 0)) x Z.1)))[j]? = some (pj_fv ω (pj_nZ Z x 0) (va_up I Z.1 (fun _ => 0)) (va_up J Z.1 (fun _ => 0)) x Z.1 j) := by
      rw [List.getElem?_map, List.getElem?_range (by omega)]; rfl
    have h2 : pj_fv ω (pj_nZ Z x 0) (va_up I Z.1 (fun _ => 0)) (va_up J Z.1 (fun _ => 0)) x Z.1 j = defaultValue (pj_ty x j) := by
      have h3 := List.all_eq_true.mp pj_okY_all x (List.mem_range.mpr hx)
      unfold pj_okY at h3
      have h4 := List.all_eq_true.mp h3 j (List.mem_range.mpr (by omega))
      have e1 : (pj_nZ Z x 0).2.2.2 Z.1 j = none := by show va_up Z.2.2.2 Z.1 (fun _ => none) Z.1 j = none; rw [va_up_at]
      unfold pj_fv pj_ft
      rw [e1, va_up_at, va_up_at]
      revert h4
      cases pj_ty x j <;> intro h4 <;> first | rfl | cases h4
    unfold vp_V
    rw [List.getD_eq_getElem?_getD, h1, h2]
    rfl
  subst hy
  refine va_new (C := r.1) (T := r.2.1) (N := r.2.2) (ci := x) X.1 X.2.1 X.2.2.2.2.1 hin (pj_ty x) hty X.2.2.2.1 (X.2.2.2.2.1 _ hl) (X.2.2.2.2.1 _ hinst) (X.2.2.2.2.1 _ hini) X.2.2.2.2.2.1 g.2.1 pj_wl_D g.2.2.2.1 (fun q hq => Nat.le_trans X.2.2.2.2.2.2.1 hq) hr hfs hc (by rw [← hnf]; exact hs) hd (fun q H1 hP hD hS => ?_)
  intro T hT XX
  have hsz : H1.size ≤ ω.2.2.2.2.1 + (Z.1 - 2) + 1 := by
    have := XX.heapSize
    rw [hT] at this
    have := g.2.2.1
    omega
  have hq := pj_fresh hP hD hsz
  subst hq
  have := kk H1 (pj_wd_push (by omega) g (pj_we_obj hkd hx) hP hS)
  rw [hnf] at this
  rw [pj_adn g.1.1]
  exact this T hT XX
theorem pj_RA {U : State} {cA : ClassId} {ty : FieldType} (h : va_RA U cA ty) : U.vm.findClass ("[" ++ ty.toString) = some cA := by
  cases ty <;> first | exact h | exact h.choose_spec.choose_spec.2.2.2
theorem pj_same {t0 : Nat} {cA cB : ClassId} {ty : FieldType} (hK : va_K ω.1 pj_cl (pj_tys ω) s) (hK2 : va_K ω.1 pj_cl (pj_tys ω ++ [(cA, ty)]) s) (ht : (pj_tys ω)[t0]? = some (cB, ty)) : cA = cB := by
  have h1 := pj_RA (hK.2 t0 _ ht).2
  have h2 := pj_RA (hK2.2 5 (cA, ty) rfl).2
  exact Option.some.inj (h2.symm.trans h1)
theorem pj_newa (X : pj_X ω p R s m args c bytes nL own) {at' : ArrayType} {x : Nat} {n : Int32} (hd : decode bytes pc = .ok (.newarray at', 2)) (hat : (at' = .int ∧ x = 13) ∨ (at' = .long ∧ x = 14) ∨ (at' = .boolean ∧ x = 15))
    (g : pj_wd ω s Z I J H locs cells) (hn : ¬ n < 0) (hb : n.toNatClampNeg ≤ 100000) (hc : cells + 1 ≤ R.cells) (hs : slots + n.toNatClampNeg ≤ R.slots)
    (kk : ∀ H1, pj_wd ω s (pj_nZ Z x n.toNatClampNeg) (va_up I Z.1 (fun _ => 0)) (va_up J Z.1 (fun _ => 0)) H1 locs (cells + 1) → W p l e R s m args below meth c H1 locs (cells + 1) (slots + n.toNatClampNeg) QW (F0 m (pc + 2) ls (.ref (pj_ad ω Z.1) :: rest))) :
    W p l e R s m args below meth c H locs cells slots QW (F0 m pc ls (.int n :: rest)) := by
  have hA : ∀ q, s.heap.size ≤ q → ω.2.2.2.2.1 ≤ q := fun q hq => Nat.le_trans X.2.2.2.2.2.2.1 hq
  have fin : ∀ (q : Nat) (H1 : Heap) (el : va_E), x < 18 → pj_we ω (pj_nZ Z x n.toNatClampNeg) (va_up I Z.1 (fun _ => 0)) (va_up J Z.1 (fun _ => 0)) Z.1 = el → va_P ω.1 pj_cl (pj_wl ω Z I J ++ [(q, el)]) H1 → va_D (fun x => ω.2.2.2.2.1 ≤ x) (pj_wl ω Z I J ++ [(q, el)]) → va_S (fun x => ω.2.2.2.2.1 ≤ x) s.heap H1 locs → W p l e R s m args below meth c H1 locs (cells + 1) (slots + n.toNatClampNeg) QW (F0 m (pc + 2) ls (.ref q :: rest)) := by
    intro q H1 el hx hw hP hD hS T hT XX
    have hsz : H1.size ≤ ω.2.2.2.2.1 + (Z.1 - 2) + 1 := by
      have := XX.heapSize
      rw [hT] at this
      have := g.2.2.1
      omega
    have hq := pj_fresh hP hD hsz
    subst hq
    have := kk H1 (pj_wd_push hx g hw hP hS)
    rw [pj_adn g.1.1]
    exact this T hT XX
  have hkd : (pj_nZ Z x n.toNatClampNeg).2.1 Z.1 = x := va_up_at _ _ _
  have hln : (pj_nZ Z x n.toNatClampNeg).2.2.1 Z.1 = n.toNatClampNeg := va_up_at _ _ _
  rcases hat with ⟨rfl, rfl⟩ | ⟨rfl, rfl⟩ | ⟨rfl, rfl⟩
  · refine va_newa (atype := .int) (ty := .int) (a0 := (n.toNatClampNeg, .inl (fun _ => 0))) X.1 X.2.1 (X.2.2.2.2.1 _ (pj_tb (k := 46) (by decide +kernel))) rfl X.2.2.2.2.2.1 g.2.1 pj_wl_D g.2.2.2.1 hA (fun cA => rfl) hn rfl (by show n.toNatClampNeg * 4 ≤ _; omega) hc hs hd (fun q cA H1 hK2 hP hD hS => ?_)
    have e := pj_same X.2.2.2.2.2.1 hK2 pj_t0
    subst e
    exact fin q H1 _ (by omega) (by rw [pj_we_13 hkd, hln, va_up_at]) hP hD hS
  · refine va_newa (atype := .long) (ty := .long) (a0 := (n.toNatClampNeg, .inr (.inl (fun _ => 0)))) X.1 X.2.1 (X.2.2.2.2.1 _ (pj_tb (k := 1368) (by decide +kernel))) rfl X.2.2.2.2.2.1 g.2.1 pj_wl_D g.2.2.2.1 hA (fun cA => rfl) hn rfl (by show n.toNatClampNeg * 8 ≤ _; omega) hc hs hd (fun q cA H1 hK2 hP hD hS => ?_)
    have e := pj_same X.2.2.2.2.2.1 hK2 pj_t1
    subst e
    exact fin q H1 _ (by omega) (by rw [pj_we_14 hkd, hln, va_up_at]) hP hD hS
  · refine va_newa (atype := .boolean) (ty := .boolean) (a0 := (n.toNatClampNeg, .inl (fun _ => 0))) X.1 X.2.1 (X.2.2.2.2.1 _ (pj_tb (k := 344) (by decide +kernel))) rfl X.2.2.2.2.2.1 g.2.1 pj_wl_D g.2.2.2.1 hA (fun cA => rfl) hn rfl (by show n.toNatClampNeg * 1 ≤ _; omega) hc hs hd (fun q cA H1 hK2 hP hD hS => ?_)
    have e := pj_same X.2.2.2.2.2.1 hK2 pj_t2
    subst e
    exact fin q H1 _ (by omega) (by rw [pj_we_15 hkd, hln, va_up_at]) hP hD hS
theorem pj_newq (X : pj_X ω p R s m args c bytes nL own) {k : Nat} {n : Int32} (hd : decode bytes pc = .ok (.anewarray k, 3)) (ho : own = 1 ∧ k = 9)
    (g : pj_wd ω s Z I J H locs cells) (hn : ¬ n < 0) (hb : n.toNatClampNeg ≤ 100000) (hc : cells + 1 ≤ R.cells) (hs : slots + n.toNatClampNeg ≤ R.slots)
    (kk : ∀ H1, pj_wd ω s (pj_nZ Z 16 n.toNatClampNeg) (va_up I Z.1 (fun _ => 0)) (va_up J Z.1 (fun _ => 0)) H1 locs (cells + 1) → W p l e R s m args below meth c H1 locs (cells + 1) (slots + n.toNatClampNeg) QW (F0 m (pc + 3) ls (.ref (pj_ad ω Z.1) :: rest))) :
    W p l e R s m args below meth c H locs cells slots QW (F0 m pc ls (.int n :: rest)) := by
  have hA : ∀ q, s.heap.size ≤ q → ω.2.2.2.2.1 ≤ q := fun q hq => Nat.le_trans X.2.2.2.2.2.2.1 hq
  obtain ⟨rfl, rfl⟩ := ho
  refine va_newq (C := "PegCoats$State") X.1 X.2.1 X.2.2.2.1 (X.2.2.2.2.1 _ (pj_tb (k := 351) (by decide +kernel))) (va_AO.of (X.2.2.2.2.1 _ (pj_tb (k := 352) (by decide +kernel)))) X.2.2.2.2.2.1 g.2.1 pj_wl_D g.2.2.2.1 hA hn rfl (by omega) hc hs hd (fun q cA H1 hK2 hP hD hS => ?_)
  have e := pj_same X.2.2.2.2.2.1 hK2 pj_t3
  subst e
  intro T hT XX
  have hsz : H1.size ≤ ω.2.2.2.2.1 + (Z.1 - 2) + 1 := by
    have := XX.heapSize
    rw [hT] at this
    have := g.2.2.1
    omega
  have hq := pj_fresh hP hD hsz
  subst hq
  have hkd : (pj_nZ Z 16 n.toNatClampNeg).2.1 Z.1 = 16 := va_up_at _ _ _
  have hln : (pj_nZ Z 16 n.toNatClampNeg).2.2.1 Z.1 = n.toNatClampNeg := va_up_at _ _ _
  have hrr : (pj_nZ Z 16 n.toNatClampNeg).2.2.2 Z.1 = fun _ => none := va_up_at _ _ _
  have := kk H1 (pj_wd_push (by omega) g (by rw [pj_we_16 hkd, hln, hrr]; rfl) hP hS)
  rw [pj_adn g.1.1]
  exact this T hT XX
theorem pj_copy (X : pj_X ω p R s m args c bytes nL own) {k : Nat} {n sp dp : Int32} {a d : Nat} (hd : decode bytes pc = .ok (.invokestatic k, 3)) (hl : Cond.methodLink (cn own) k arraycopyName ∈ pj_tbl) (ha : Z.2.1 a = 13) (hdd : Z.2.1 d = 13)
    (g : pj_wd ω s Z I J H locs cells) (h1 : ¬ sp < 0) (h2 : ¬ dp < 0) (h3 : ¬ n < 0) (h4 : sp.toNatClampNeg + n.toNatClampNeg ≤ Z.2.2.1 a) (h5 : dp.toNatClampNeg + n.toNatClampNeg ≤ Z.2.2.1 d) (hr : (rest.map fun v => v.category).sum ≤ 8) (hml : ls.size = nL)
    (kk : ∀ H1 locs1, pj_wd ω s Z (pj_cp I a d sp.toNatClampNeg dp.toNatClampNeg n.toNatClampNeg) J H1 locs1 cells → W p l e R s m args below meth c H1 locs1 cells slots QW (F0 m (pc + 3) ls rest)) :
    W p l e R s m args below meth c H locs cells slots QW (F0 m pc ls (.int n :: .int dp :: .ref (pj_ad ω d) :: .int sp :: .ref (pj_ad ω a) :: rest)) := by
  have h0 := pj_ne0 g.1 hdd (by omega)
  obtain ⟨q0, rfl, hq, he⟩ := pj_cell g ha (by omega)
  obtain ⟨q1, rfl, hq1, he1⟩ := pj_cell g hdd (by omega)
  rw [pj_we_13 ha] at he
  rw [pj_we_13 hdd] at he1
  have hnw : nativeFrameWords "java/lang/System" "arraycopy" 5 ≤ 40 := by decide +kernel
  refine va_copyi X.1 X.2.1 (by rw [X.2.2.1, hml]) X.2.2.2.1 (X.2.2.2.2.1 _ hl) (X.2.2.2.2.1 _ (pj_tb (k := 729) (by decide +kernel))) (X.2.2.2.2.1 _ (pj_tb (k := 728) (by decide +kernel))) (X.2.2.2.2.1 _ (pj_tb (k := 18) (by decide +kernel))) X.2.2.2.2.2.1 g.2.1 pj_wl_D g.2.2.2.1 q0 q1 0 0 (ty := .int) he he1 pj_t0 pj_t0 rfl h1 h2 h3 h4 h5 (fun _ _ => rfl) X.2.2.2.2.2.2.2.2.2.1 (by have := X.2.2.2.2.2.2.2.2.1; omega) hd
    (fun H1 locs1 hP _ hS => kk H1 locs1 (pj_wd_set g hq1 ?_ (fun j hj => pj_we_eq rfl rfl rfl (va_up_no _ _ hj) rfl) rfl g.1 rfl (va_up_no _ _ h0) hP hS))
  rw [pj_we_13 hdd]
  unfold pj_cp
  rw [va_up_at]
end PN
end
section
/-! calls: contracts, words -/
theorem pj_pay {args : Array Value} {s : State} (hts : ∀ w ∈ pj_tbl, w.before args s = true) : ∀ w ∈ pj_tbl, ∀ (a' : Array Value) (U : State), s.WarmedH U.vm → w.before a' U = true := by
  intro w hw a' U hW
  have h1 : (goodWord w || pj_isN w) = true := (List.mem_filter.mp hw).2
  have hb := hts w hw
  rw [Bool.or_eq_true] at h1
  rcases h1 with h1 | h1
  · exact word_at hW (good_of_word h1) hb
  · revert hb h1
    cases w <;> intro hb h1 <;> first
      | exact va_Nw.use rfl (va_Nw.warmF hW (va_Nw.of rfl hb))
      | exact va_Nw.use rfl (va_Nw.warmM hW (va_Nw.of rfl hb))
      | (have h2 := Cond.stringRef_warmed (args := args) hW hb; first | exact va_tabs rfl rfl h2 | (simp only [Cond.before, Cond.holds, Cond.value, State.names, State.poolOf?, State.resolvedAt?] at h2 ⊢; exact h2))
      | (rename_i ty; have h2 : (Cond.arrayOver ty).before args (s.setVm U.vm) = true := (by rw [Cond.arrayOver_setVmC hW.alike]; exact hb); exact h2)
      | cases h1
/-- a call's start -/
def pj_B (ω : pj_Wd) (σ : pj_S) (U : State) : Prop := pj_wf σ.1 ∧ va_P ω.1 pj_cl (pj_wl ω σ.1 σ.2.1 σ.2.2) U.heap ∧ U.heap.size = ω.2.2.2.2.1 + (σ.1.1 - 2) ∧ va_K ω.1 pj_cl (pj_tys ω) U ∧ σ.1.2.2.1 0 = ω.2.2.2.2.2.1 ∧ σ.2.1 0 = ω.2.2.2.2.2.2 ∧ va_X ω.2.2.1 ω.2.2.2.2.2.1 ω.2.2.2.2.2.2 U U.heap ∧ ω.2.2.1 < ω.2.2.2.2.1 ∧ pj_st ω U
def pj_Pc (ω : pj_Wd) (as : List Value) (σ : pj_S) : Array Value → State → Prop := va_Pc (as.map (pj_cv ω)) (pj_B ω σ)
/-- a call's end -/
def pj_Qc (ω : pj_Wd) (mc : Nat) (K : pj_K) : Array Value → State → Outcome → State → Prop := fun _ st oc t =>
  (∃ (r : Option Value) (σ : pj_S), K r σ ∧ oc = .returned (r.map (pj_cv ω)) ∧ pj_wf σ.1 ∧ va_P ω.1 pj_cl (pj_wl ω σ.1 σ.2.1 σ.2.2) t.heap ∧ st.heap.size + mc = ω.2.2.2.2.1 + (σ.1.1 - 2) ∧ σ.1.2.2.1 0 = ω.2.2.2.2.2.1 ∧ σ.2.1 0 = ω.2.2.2.2.2.2) ∧ va_F (fun x => ω.2.2.2.2.1 ≤ x) st t
theorem pj_blind (ω : pj_Wd) (as : List Value) (σ : pj_S) : FrameBlind (pj_Pc ω as σ) := by
  intro a U g mk q
  obtain ⟨q0, q1, q2, q3, q4, q5, q6, q7, q8, q9⟩ := q
  exact ⟨q0, q1, q2, q3, va_K.moved (u := U) (U := U.calling g mk a) (Vm.Alike.refl U.vm) q4, q5, q6, va_X.moved (u := U) (U := U.calling g mk a) (Vm.Alike.refl U.vm) q7, q8, pj_st_move q9 (vk_R.same (u := U) rfl q9.1) (Vm.Alike.refl U.vm) (fun _ _ _ => rfl)⟩
section PC
variable {ω : pj_Wd} {p : Program} {l : Launch} {e : Env} {R : Room} {s : State} {m : MethodId} {args : Array Value} {below : List Frame} {meth : Method} {c : Code} {nL : Nat} {QW : State → Prop} {bytes : ByteArray} {own : Nat} {pc : Nat} {Z : pj_Z} {I : Nat → Nat → Int32} {J : Nat → Nat → Int64} {H : Heap} {locs : List Loc} {ls : Array Slot} {cells slots mc ms : Nat} {rest st0 : List Value}
theorem pj_szle (X : pj_X ω p R s m args c bytes nL own) (g : pj_wd ω s Z I J H locs cells) : ω.2.2.2.2.1 + (Z.1 - 2) ≤ H.size := by
  obtain ⟨⟨w1, -⟩, g2, g3, g4, -⟩ := g
  rcases Nat.lt_or_ge 2 Z.1 with h | h
  · have hk : (Z.1 - 3) + 2 < Z.1 := by omega
    have h1 := (g2 _ _ (pj_wl_get (ω := ω) (I := I) (J := J) hk)).lt
    have h1 : ω.2.2.2.2.1 + (Z.1 - 3) < H.size := h1
    omega
  · have h1 := g4.1
    have h2 := X.2.2.2.2.2.2.1
    omega
/-- at a call: the callee's start holds -/
theorem pj_start (X : pj_X ω p R s m args c bytes nL own) (g : pj_wd ω s Z I J H locs cells) (hsz : H.size = ω.2.2.2.2.1 + (Z.1 - 2)) (as : List Value) : ∀ U : State, U.heap = H → s.WarmedH U.vm → pj_Pc ω as (Z, I, J) (as.map (pj_cv ω)).toArray U := by
  intro U hU hW
  obtain ⟨hX, hb1, hb2⟩ := X.2.2.2.2.2.2.2.1
  refine ⟨rfl, g.1, by rw [hU]; exact g.2.1, by rw [hU]; exact hsz, va_K.moved hW.alike X.2.2.2.2.2.1, g.2.2.2.2.1, g.2.2.2.2.2, ?_, hb1, ?_⟩
  · rw [hU]
    exact va_X.moved hW.alike (hX.kept (g.2.2.2.1.2.1 _ hb2 (Nat.not_le.mpr hb1)))
  · have hs := X.2.2.2.2.2.2.2.2.2.2
    exact pj_st_move hs (vk_R.warm hW hs.1) hW.alike (fun a h1 h2 => by rw [hU]; exact g.2.2.2.1.2.1 a h1 h2)
/-- behind a call -/
theorem pj_back {a : Array Value} {K : pj_K} (hr : va_Run p l e R s m args below meth c H locs cells slots mc ms (F0 m pc ls st0) rest (pj_Qc ω mc K a) (fun x => ω.2.2.2.2.1 ≤ x)) (hS : va_S (fun x => ω.2.2.2.2.1 ≤ x) s.heap H locs) (hsz : H.size = s.heap.size + cells)
    (kk : ∀ (r : Option Value) (σ : pj_S) (H1 : Heap) (locs1 : List Loc), K r σ → pj_wd ω s σ.1 σ.2.1 σ.2.2 H1 locs1 (cells + mc) → W p l e R s m args below meth c H1 locs1 (cells + mc) (slots + ms) QW (F0 m (pc + 3) ls ((r.map (pj_cv ω)).toList ++ rest))) :
    W p l e R s m args below meth c H locs cells slots QW (F0 m pc ls st0) := by
  intro T hT X
  obtain ⟨v, st₀, t, T', L, h0, X', hL, e1, e2, ⟨⟨r, σ, hk, hv, w1, w2, w3, w4, w5⟩, hz, hkeep⟩, st⟩ := hr T hT X
  have hv : v = r.map (pj_cv ω) := Outcome.returned.inj hv
  subst hv
  rw [h0] at hz hkeep w3
  have hS' : va_S (fun x => ω.2.2.2.2.1 ≤ x) s.heap T'.heap (locs ++ L) := ⟨Nat.le_trans hS.1 (by rw [e1]; exact hz), fun q h1 h2 => by rw [e1, hkeep q (Nat.lt_of_lt_of_le h1 hS.1) h2]; exact hS.2.1 q h1 h2, fun q hq => by
    rcases List.mem_append.mp hq with h | h
    · exact hS.2.2 q h
    · exact hL q h⟩
  obtain ⟨t2, a1, b1⟩ := kk r σ T'.heap (locs ++ L) hk ⟨w1, by rw [e1]; exact w2, by omega, hS', w4, w5⟩ T' rfl X'
  exact ⟨t2, st t2 a1, b1⟩
end PC
end
section
/-! the calls themselves -/
abbrev pj_ws (t : pj_T) : List Cond := Cond.code t.1.1 t.1.2.1 t.1.2.2.1 t.1.2.2.2 :: pj_tbl
abbrev pj_rm (d k : Nat) : Room := { frames := d + 10, cells := (ta k).1, slots := (ta k).2, locals := 64 * d + 640 }
/-- our methods keep their contracts, to a depth -/
def pj_hM (l : Launch) (ω : pj_Wd) (C : pj_CT) (d : Nat) : Prop := ∀ (k : Nat) (as : List Value) (σ : pj_S) (K : pj_K) (t : pj_T), k ≠ 0 → tm k = some t → C k as σ K → Met l t.1.1 (pj_ws t) (pj_rm d k) (pj_Pc ω as σ) (pj_Qc ω (ta k).1 K) (ta k).1 (ta k).2 (fun x => ω.2.2.2.2.1 ≤ x)
/-- a call's entry -/
theorem pj_lnk {own k x : Nat} (h : (cpM.any fun q => Nat.beq q.1 own && Nat.beq q.2.1 k && Nat.beq q.2.2.1 x) = true) : ∃ (pl : Nat) (ne : Bool), pj_okX (own, k, x, pl, ne) = true := by
  obtain ⟨q, hq, h⟩ := List.any_eq_true.mp h
  simp only [Bool.and_eq_true] at h
  obtain ⟨⟨h1, h2⟩, h3⟩ := h
  have e1 := Nat.eq_of_beq_eq_true h1
  have e2 := Nat.eq_of_beq_eq_true h2
  have e3 := Nat.eq_of_beq_eq_true h3
  obtain ⟨q1, q2, q3, q4, q5⟩ := q
  dsimp only at e1 e2 e3
  subst e1; subst e2; subst e3
  exact ⟨q4, q5, List.all_eq_true.mp cpM_ok _ hq⟩
theorem pj_lnk2 {own k x : Nat} {t : pj_T} (hx : x < 1000) (ht : tm x = some t) (h : (cpM.any fun q => Nat.beq q.1 own && Nat.beq q.2.1 k && Nat.beq q.2.2.1 x) = true) : x ≠ 0 ∧ (Cond.methodLink (cn own) k t.1.1 ∈ pj_tbl ∨ Cond.methodLinkNest (cn own) k t.1.1 "PegCoats" ∈ pj_tbl) := by
  obtain ⟨pl, ne, h⟩ := pj_lnk h
  unfold pj_okX at h
  dsimp only at h
  split at h
  · omega
  · omega
  · omega
  · omega
  · omega
  · omega
  · rw [ht] at h
    dsimp only at h
    rw [Bool.and_eq_true, Bool.not_eq_true'] at h
    refine ⟨fun q => ?_, ?_⟩
    · rw [q] at h
      exact absurd h.1 (by decide)
    · cases ne with
      | false => exact Or.inl (pj_tb (of_decide_eq_true h.2))
      | true => exact Or.inr (pj_tb (of_decide_eq_true h.2))
set_option maxRecDepth 8000 in
theorem pj_loc {a d r : Nat} (h : a ≤ 40) (h2 : 64 * d + 704 ≤ r) : 8 + (a + 11) + (64 * d + 640) ≤ r := by omega
section PR
variable {ω : pj_Wd} {p : Program} {l : Launch} {e : Env} {R : Room} {s : State} {m : MethodId} {args : Array Value} {below : List Frame} {meth : Method} {c : Code} {nL : Nat} {QW : State → Prop} {bytes : ByteArray} {own : Nat} {pc : Nat} {Z : pj_Z} {I : Nat → Nat → Int32} {J : Nat → Nat → Int64} {H : Heap} {locs : List Loc} {ls : Array Slot} {cells slots d : Nat} {rest : List Value} {C : pj_CT}
theorem pj_callB (X : pj_X ω p R s m args c bytes nL own) (hR1 : d + 11 ≤ R.frames) (hR2 : 64 * d + 704 ≤ R.locals) {x : Nat} {t : pj_T} (hk : pj_okP x t) {n k : Nat} (hn : (mp x).1 = n) (hl : Cond.methodLink (cn own) k t.1.1 ∈ pj_tbl) :
    CallB R s args (cn own) k t.1.1 t.1.2.1 t.1.2.2.1 t.1.2.2.2 (pj_ws t) (pj_rm d x) (ta x).1 (ta x).2 n := by
  obtain ⟨-, -, hcode, hini, hy1, hy2, hpar, hml, -⟩ := hk
  have hts := X.2.2.2.2.1
  refine ⟨rfl, rfl, hR1, pj_loc hml hR2, fun w hw => ?_, List.mem_cons_self, hts _ hcode, hts _ hini, ⟨hy1, hy2⟩, fun sig h => ?_, hts _ hl⟩
  · rcases List.mem_cons.mp hw with rfl | hw
    · exact pj_pay hts _ hcode
    · exact pj_pay hts _ hw
  · rw [h] at hpar
    rw [← hn]
    exact (Option.some.inj hpar).symm
theorem pj_callN (X : pj_X ω p R s m args c bytes nL own) (hR1 : d + 11 ≤ R.frames) (hR2 : 64 * d + 704 ≤ R.locals) {x : Nat} {t : pj_T} (hk : pj_okP x t) {n k : Nat} (hn : (mp x).1 = n) (hl : Cond.methodLinkNest (cn own) k t.1.1 "PegCoats" ∈ pj_tbl) :
    va_CN R s args (cn own) k t.1.1 "PegCoats" t.1.2.1 t.1.2.2.1 t.1.2.2.2 (pj_ws t) (pj_rm d x) (ta x).1 (ta x).2 n := by
  obtain ⟨-, -, hcode, hini, hy1, hy2, hpar, hml, -⟩ := hk
  have hts := X.2.2.2.2.1
  refine ⟨⟨rfl, rfl, hR1, pj_loc hml hR2, fun w hw => ?_, List.mem_cons_self⟩, hts _ hcode, hts _ hini, ⟨hy1, hy2⟩, fun sig h => ?_, hts _ hl⟩
  · rcases List.mem_cons.mp hw with rfl | hw
    · exact pj_pay hts _ hcode
    · exact pj_pay hts _ hw
  · rw [h] at hpar
    rw [← hn]
    exact (Option.some.inj hpar).symm
/-- the heap's size in a walk -/
theorem pj_size (X : pj_X ω p R s m args c bytes nL own) (g : pj_wd ω s Z I J H locs cells) {g0 : JFrame} (k : H.size = ω.2.2.2.2.1 + (Z.1 - 2) → H.size = s.heap.size + cells → W p l e R s m args below meth c H locs cells slots QW g0) : W p l e R s m args below meth c H locs cells slots QW g0 := by
  intro T hT XX
  have h1 := XX.heapSize
  rw [hT] at h1
  have h2 := pj_szle X g
  have h3 := g.2.2.1
  exact k (by omega) (by omega) T hT XX
theorem pj_cV (X : pj_X ω p R s m args c bytes nL own) (hM : pj_hM l ω C d) (hR1 : d + 11 ≤ R.frames) (hR2 : 64 * d + 704 ≤ R.locals) {k x z a : Nat} {t : pj_T} (hx : x < 1000) (ht : tm x = some t) (hkind : (mp x).2 = 0) (hz : z = t.2.1.1)
    (hl : (cpM.any fun q => Nat.beq q.1 own && Nat.beq q.2.1 k && Nat.beq q.2.2.1 x) = true) {As : List Value} (hn : (mp x).1 = As.length) (ha : Z.2.1 a = z) (hrest : (rest.map fun v => v.category).sum ≤ 8) (hd : decode bytes pc = .ok (.invokevirtual k, 3))
    (g : pj_wd ω s Z I J H locs cells) (hls : ls.size = nL) (hc : cells + (ta x).1 ≤ R.cells) (hs : slots + (ta x).2 ≤ R.slots) {K : pj_K} (hC : C x (.ref a :: As) (Z, I, J) K)
    (kk : ∀ (r : Option Value) (σ : pj_S) (H1 : Heap) (locs1 : List Loc), K r σ → pj_wd ω s σ.1 σ.2.1 σ.2.2 H1 locs1 (cells + (ta x).1) → W p l e R s m args below meth c H1 locs1 (cells + (ta x).1) (slots + (ta x).2) QW (F0 m (pc + 3) ls ((r.map (pj_cv ω)).toList ++ rest))) :
    W p l e R s m args below meth c H locs cells slots QW (F0 m pc ls ((As.map (pj_cv ω)).reverse ++ .ref (pj_ad ω a) :: rest)) := by
  refine pj_size X g (fun hsz hsz2 => ?_)
  obtain ⟨hx0, hlk⟩ := pj_lnk2 hx ht hl
  have hk := pj_okAll hx0 ht
  have hMet := hM x (.ref a :: As) (Z, I, J) K t hx0 ht hC
  have hkk := hk.2.2.2.2.2.2.2.2.2.2
  rw [hkind] at hkk
  rcases hkk with ⟨-, hin, hse, -⟩ | ⟨h, -⟩ | ⟨h, -⟩
  · have hcl : ∃ r, pj_cl[z]? = some r ∧ r.1 = t.1.1.cls := by
      have h13 : z < 13 := by
        obtain ⟨w1, w2, w3, w4⟩ := g.1
        rcases Nat.lt_or_ge z 13 with q | q
        · exact q
        · exfalso
          have hmt : ∀ k, k < 266 → k ≠ 0 → (mp k).2 = 0 → ∀ t, tm k = some t → t.2.1.1 < 13 := by
            intro k hk hk0 h0 t ht
            have hall : (List.range 266).all (fun k => Nat.beq k 0 || !Nat.beq (mp k).2 0 || (match tm k with | none => true | some t => Nat.blt t.2.1.1 13)) = true := by decide +kernel
            have := List.all_eq_true.mp hall k (List.mem_range.mpr hk)
            rw [ht] at this
            simp only [Bool.or_eq_true, Bool.not_eq_true'] at this
            rcases this with (h | h) | h
            · exact absurd (Nat.eq_of_beq_eq_true h) hk0
            · rw [h0] at h; cases h
            · exact Nat.blt_eq.mp h
          have hlt : x < 266 := by
            rcases Nat.lt_or_ge x 266 with q | q
            · exact q
            · exfalso
              unfold tm at ht
              rw [show Nat.blt x 266 = false by rw [← Bool.not_eq_true, Nat.blt_eq]; omega] at ht
              cases ht
          have := hmt x hlt hx0 hkind t ht
          omega
      obtain ⟨r, hr⟩ : ∃ r, pj_cl[z]? = some r := ⟨pj_cl[z]'h13, List.getElem?_eq_getElem h13⟩
      refine ⟨r, hr, ?_⟩
      rw [(pj_cls hr).2.2.2.2.2.2.2, hk.2.1, hz]
    obtain ⟨r, hr, hrc⟩ := hcl
    have h13 := (pj_cls hr).1
    obtain ⟨q0, rfl, hq, he⟩ := pj_cell g ha (by omega)
    rw [pj_we_obj ha h13] at he
    have hrv := va_recv X.2.2.2.2.2.1 g.2.1 hr he
    rw [hrc] at hrv
    have hp : PreV s H t.1.1.cls (pj_ad ω (q0 + 2)) (pj_Pc ω (.ref (q0 + 2) :: As) (Z, I, J)) (As.map (pj_cv ω)) := ⟨pj_blind _ _ _, hrv, fun U hU hW => pj_start X g hsz (.ref (q0 + 2) :: As) U hU hW⟩
    rcases hlk with hlk | hlk
    · exact pj_back (va_runV (As := As.map (pj_cv ω)) (rest := rest) ⟨X.1, X.2.1, X.2.2.1, X.2.2.2.1, X.2.2.2.2.1⟩ hMet ⟨pj_callB X hR1 hR2 hk hn hlk, X.2.2.2.2.1 _ hin, X.2.2.2.2.1 _ hse⟩ hp rfl (by rw [List.length_map]) hls rfl (lv_room hrest) hd ⟨hc, hs⟩) g.2.2.2.1 hsz2 kk
    · exact pj_back (va_runVN (As := As.map (pj_cv ω)) (rest := rest) ⟨X.1, X.2.1, X.2.2.1, X.2.2.2.1, X.2.2.2.2.1⟩ hMet ⟨pj_callN X hR1 hR2 hk hn hlk, X.2.2.2.2.1 _ hin, X.2.2.2.2.1 _ hse⟩ hp rfl (by rw [List.length_map]) hls rfl (lv_room hrest) hd ⟨hc, hs⟩) g.2.2.2.1 hsz2 kk
  · cases h
  · cases h
theorem pj_cS (X : pj_X ω p R s m args c bytes nL own) (hM : pj_hM l ω C d) (hR1 : d + 11 ≤ R.frames) (hR2 : 64 * d + 704 ≤ R.locals) {k x : Nat} {t : pj_T} (hx : x < 1000) (ht : tm x = some t) (hkind : (mp x).2 = 1)
    (hl : (cpM.any fun q => Nat.beq q.1 own && Nat.beq q.2.1 k && Nat.beq q.2.2.1 x) = true) {As : List Value} (hn : (mp x).1 = As.length) (hrest : (rest.map fun v => v.category).sum ≤ 8) (hd : decode bytes pc = .ok (.invokestatic k, 3))
    (g : pj_wd ω s Z I J H locs cells) (hls : ls.size = nL) (hc : cells + (ta x).1 ≤ R.cells) (hs : slots + (ta x).2 ≤ R.slots) {K : pj_K} (hC : C x As (Z, I, J) K)
    (kk : ∀ (r : Option Value) (σ : pj_S) (H1 : Heap) (locs1 : List Loc), K r σ → pj_wd ω s σ.1 σ.2.1 σ.2.2 H1 locs1 (cells + (ta x).1) → W p l e R s m args below meth c H1 locs1 (cells + (ta x).1) (slots + (ta x).2) QW (F0 m (pc + 3) ls ((r.map (pj_cv ω)).toList ++ rest))) :
    W p l e R s m args below meth c H locs cells slots QW (F0 m pc ls ((As.map (pj_cv ω)).reverse ++ rest)) := by
  refine pj_size X g (fun hsz hsz2 => ?_)
  obtain ⟨hx0, hlk⟩ := pj_lnk2 hx ht hl
  have hk := pj_okAll hx0 ht
  have hMet := hM x As (Z, I, J) K t hx0 ht hC
  have hkk := hk.2.2.2.2.2.2.2.2.2.2
  rw [hkind] at hkk
  have hp : PreS s H (pj_Pc ω As (Z, I, J)) (As.map (pj_cv ω)) := ⟨pj_blind _ _ _, fun U hU hW => pj_start X g hsz As U hU hW⟩
  rcases hkk with ⟨h, -⟩ | ⟨-, hst, -⟩ | ⟨h, -⟩
  · cases h
  · rcases hlk with hlk | hlk
    · exact pj_back (va_runS (As := As.map (pj_cv ω)) (rest := rest) ⟨X.1, X.2.1, X.2.2.1, X.2.2.2.1, X.2.2.2.2.1⟩ hMet ⟨pj_callB X hR1 hR2 hk hn hlk, X.2.2.2.2.1 _ hst⟩ hp rfl (by rw [List.length_map]) hls rfl (lv_room hrest) hd ⟨hc, hs⟩) g.2.2.2.1 hsz2 kk
    · exact pj_back (va_runSN (As := As.map (pj_cv ω)) (rest := rest) ⟨X.1, X.2.1, X.2.2.1, X.2.2.2.1, X.2.2.2.2.1⟩ hMet ⟨pj_callN X hR1 hR2 hk hn hlk, X.2.2.2.2.1 _ hst, trivial⟩ hp rfl (by rw [List.length_map]) hls rfl (lv_room hrest) hd ⟨hc, hs⟩) g.2.2.2.1 hsz2 kk
  · cases h
theorem pj_cI (X : pj_X ω p R s m args c bytes nL own) (hM : pj_hM l ω C d) (hR1 : d + 11 ≤ R.frames) (hR2 : 64 * d + 704 ≤ R.locals) {k x a : Nat} {t : pj_T} (hx : x < 1000) (ht : tm x = some t) (hkind : (mp x).2 = 2)
    (hl : (cpM.any fun q => Nat.beq q.1 own && Nat.beq q.2.1 k && Nat.beq q.2.2.1 x) = true) {As : List Value} (hn : (mp x).1 = As.length) (hrest : (rest.map fun v => v.category).sum ≤ 8) (hd : decode bytes pc = .ok (.invokespecial k, 3))
    (g : pj_wd ω s Z I J H locs cells) (hls : ls.size = nL) (hc : cells + (ta x).1 ≤ R.cells) (hs : slots + (ta x).2 ≤ R.slots) {K : pj_K} (hC : C x (.ref a :: As) (Z, I, J) K)
    (kk : ∀ (r : Option Value) (σ : pj_S) (H1 : Heap) (locs1 : List Loc), K r σ → pj_wd ω s σ.1 σ.2.1 σ.2.2 H1 locs1 (cells + (ta x).1) → W p l e R s m args below meth c H1 locs1 (cells + (ta x).1) (slots + (ta x).2) QW (F0 m (pc + 3) ls ((r.map (pj_cv ω)).toList ++ rest))) :
    W p l e R s m args below meth c H locs cells slots QW (F0 m pc ls ((As.map (pj_cv ω)).reverse ++ .ref (pj_ad ω a) :: rest)) := by
  refine pj_size X g (fun hsz hsz2 => ?_)
  obtain ⟨hx0, hlk⟩ := pj_lnk2 hx ht hl
  have hk := pj_okAll hx0 ht
  have hMet := hM x (.ref a :: As) (Z, I, J) K t hx0 ht hC
  have hkk := hk.2.2.2.2.2.2.2.2.2.2
  rw [hkind] at hkk
  have hp : PreS s H (pj_Pc ω (.ref a :: As) (Z, I, J)) (.ref (pj_ad ω a) :: As.map (pj_cv ω)) := ⟨pj_blind _ _ _, fun U hU hW => pj_start X g hsz (.ref a :: As) U hU hW⟩
  rcases hkk with ⟨h, -⟩ | ⟨h, -⟩ | ⟨-, hin, hnm, hret⟩
  · cases h
  · cases h
  · rcases hlk with hlk | hlk
    · have hB := pj_callB X hR1 hR2 hk hn hlk
      rw [hret] at hB
      exact pj_back (va_runI (As := As.map (pj_cv ω)) (rest := rest) ⟨X.1, X.2.1, X.2.2.1, X.2.2.2.1, X.2.2.2.2.1⟩ hMet ⟨hB, hnm, X.2.2.2.2.1 _ hin⟩ hp rfl (by rw [List.length_map]) hls rfl (lv_room hrest) hd ⟨hc, hs⟩) g.2.2.2.1 hsz2 kk
    · have hB := pj_callN X hR1 hR2 hk hn hlk
      rw [hret] at hB
      exact pj_back (va_runIN (As := As.map (pj_cv ω)) (rest := rest) ⟨X.1, X.2.1, X.2.2.1, X.2.2.2.1, X.2.2.2.2.1⟩ hMet ⟨hB, hnm, X.2.2.2.2.1 _ hin⟩ hp rfl (by rw [List.length_map]) hls rfl (lv_room hrest) hd ⟨hc, hs⟩) g.2.2.2.1 hsz2 kk
end PR
end
section
/-! String.charAt of the literal -/
def pj_Qj (r : Option Value) : Array Value → State → Outcome → State → Prop := fun _ st oc t => oc = .returned r ∧ t.heap = st.heap
/-- the literal, with its array's cell -/
def pj_sv (ω : pj_Wd) (qv : Nat) (U : State) : Prop := pj_st ω U ∧ vk_S 1 [132] [pj_by] (fun _ => ω.2.2.2.1) (fun _ => qv) (fun x => ω.2.2.2.2.1 ≤ x) U U.heap
theorem pj_sv_move {ω : pj_Wd} {qv : Nat} {s U : State} (h : pj_sv ω qv s) (hR : vk_R "PegCoats$Scanner" 38 pj_lit ω.2.2.2.1 U) (hA : s.vm.Alike U.vm) (hh : ∀ a : Nat, a < s.heap.size → ¬ ω.2.2.2.2.1 ≤ a → U.heap[a]? = s.heap[a]?) : pj_sv ω qv U :=
  ⟨pj_st_move h.1 hR hA hh, (h.2.kept hh).moved hA⟩
theorem pj_bj (ω : pj_Wd) (qv : Nat) (as : List Value) : FrameBlind (va_Pc as (pj_sv ω qv)) := by
  intro a U g mk q
  exact ⟨q.1, pj_sv_move q.2 (vk_R.same (u := U) rfl q.2.1.1) (Vm.Alike.refl U.vm) (fun _ _ _ => rfl)⟩
def pj_Xj (ω : pj_Wd) (qv : Nat) (p : Program) (s : State) (m : MethodId) (args : Array Value) (c : Code) (bytes : ByteArray) (nL : Nat) (own : String) : Prop :=
  p.tables.exec = Jvm.exec ∧ c.code = bytes ∧ c.maxLocals = nL ∧ s.vm.findClass own = some m.cls ∧ (∀ w ∈ pj_tbl, w.before args s = true) ∧ pj_sv ω qv s
abbrev pj_wj (y : MethodName) (bytes : ByteArray) (maxL : Nat) (ret : Option FieldType) : List Cond := Cond.code y bytes maxL ret :: pj_tbl
abbrev pj_rj (d : Nat) : Room := { frames := d, cells := 0, slots := 0, locals := 64 * d }
theorem pj_jm {l : Launch} {ω : pj_Wd} {qv : Nat} {y : MethodName} {bytes : ByteArray} {maxL d : Nat} {ret : Option FieldType} {as : List Value} {r : Option Value} (hpl : plainName y.cls = true) (hn : (lg_sl as).length ≤ maxL)
    (walk : ∀ (p : Program) (e : Env) (s : State) (m : MethodId) (below : List Frame) (meth : Method) (c : Code) (ls : Array Slot), pj_Xj ω qv p s m as.toArray c bytes maxL y.cls → meth.sig.returnType = ret → meth.locks = false → lv_has ls maxL (lv_args 0 as) → W p l e (pj_rj d) s m as.toArray below meth c s.heap [] 0 0 (MQ below (pj_Qj r) as.toArray s 0 0 (fun _ => False)) (F0 m 0 ls [])) :
    Met l y (pj_wj y bytes maxL ret) (pj_rj d) (va_Pc as (pj_sv ω qv)) (pj_Qj r) 0 0 (fun _ => False) := by
  refine Met.ofW (cc := bytes) (maxL := maxL) (ret := ret) hpl rfl ?_
  intro p e s m args below meth c s₁ B hml hv
  obtain ⟨hargs, hst⟩ := hv
  subst hargs
  have hts0 := atoms_spec (ws := pj_wj y bytes maxL ret) B.pre
  rw [lg_entry_eq]
  exact walk p e s m below meth c _ ⟨B.exec, B.bytes, hml, findClass_of_methodNamed B.named, fun w hw => hts0 w (List.mem_cons_of_mem _ hw), hst⟩ B.returns B.notSynchronized (lv_entry as hn)
section PJ
variable {ω : pj_Wd} {qv : Nat} {p : Program} {l : Launch} {e : Env} {R : Room} {s : State} {m : MethodId} {args : Array Value} {below : List Frame} {meth : Method} {c : Code} {nL : Nat} {QW : State → Prop} {bytes : ByteArray} {own : String} {pc d : Nat} {H : Heap} {locs : List Loc} {ls : Array Slot} {cells slots : Nat} {rest st0 : List Value}
theorem pj_jback {r : Option Value} {a : Array Value} (hr : va_Run p l e R s m args below meth c H locs cells slots 0 0 (F0 m pc ls st0) rest (pj_Qj r a) (fun _ => False)) (kk : W p l e R s m args below meth c H locs cells slots QW (F0 m (pc + 3) ls (r.toList ++ rest))) : W p l e R s m args below meth c H locs cells slots QW (F0 m pc ls st0) := by
  intro T hT X
  obtain ⟨v, st₀, t, T', L, h0, X', hL, e1, e2, ⟨hv, hh⟩, st⟩ := hr T hT X
  have hv : v = r := Outcome.returned.inj hv
  subst hv
  have hL0 : L = [] := List.eq_nil_iff_forall_not_mem.mpr (fun q hq => hL q hq)
  subst hL0
  rw [List.append_nil] at X'
  obtain ⟨t2, a1, b1⟩ := kk T' (by rw [e1, hh, h0]) X'
  exact ⟨t2, st t2 a1, b1⟩
theorem pj_jcB (X : pj_Xj ω qv p s m args c bytes nL own) {y : MethodName} {b2 : ByteArray} {maxL n k : Nat} {ret : Option FieldType} (hR1 : d + 1 ≤ R.frames) (hR2 : 8 + (maxL + 11) + 64 * d ≤ R.locals) (hcode : Cond.code y b2 maxL ret ∈ pj_tbl) (hini : Cond.initialized y.cls ∈ pj_tbl) (hy1 : y.cls ≠ "java/lang/invoke/MethodHandle") (hy2 : y.cls ≠ "java/lang/invoke/VarHandle")
    (hpar : (parseMethodDescriptor y.desc).map (fun d => d.parameters.length) = some n) (hl : Cond.methodLink own k y ∈ pj_tbl) : CallB R s args own k y b2 maxL ret (pj_wj y b2 maxL ret) (pj_rj d) 0 0 n := by
  have hts := X.2.2.2.2.1
  refine ⟨rfl, rfl, hR1, hR2, fun w hw => ?_, List.mem_cons_self, hts _ hcode, hts _ hini, ⟨hy1, hy2⟩, fun sig h => ?_, hts _ hl⟩
  · rcases List.mem_cons.mp hw with rfl | hw
    · exact pj_pay hts _ hcode
    · exact pj_pay hts _ hw
  · rw [h] at hpar
    exact (Option.some.inj hpar).symm
theorem pj_jst (X : pj_Xj ω qv p s m args c bytes nL own) (hS : va_S (fun x => ω.2.2.2.2.1 ≤ x) s.heap H locs) (as : List Value) : ∀ U : State, U.heap = H → s.WarmedH U.vm → va_Pc as (pj_sv ω qv) as.toArray U := by
  intro U hU hW
  have hs := X.2.2.2.2.2
  exact ⟨rfl, pj_sv_move hs (vk_R.warm hW hs.1.1) hW.alike (fun a h1 h2 => by rw [hU]; exact hS.2.1 a h1 h2)⟩
theorem pj_jS (X : pj_Xj ω qv p s m args c bytes nL own) (hS : va_S (fun x => ω.2.2.2.2.1 ≤ x) s.heap H locs) {y : MethodName} {b2 : ByteArray} {maxL n k : Nat} {ret : Option FieldType} {r : Option Value} {As : List Value} (hM : Met l y (pj_wj y b2 maxL ret) (pj_rj d) (va_Pc As (pj_sv ω qv)) (pj_Qj r) 0 0 (fun _ => False))
    (hR1 : d + 1 ≤ R.frames) (hR2 : 8 + (maxL + 11) + 64 * d ≤ R.locals) (hcode : Cond.code y b2 maxL ret ∈ pj_tbl) (hini : Cond.initialized y.cls ∈ pj_tbl) (hy1 : y.cls ≠ "java/lang/invoke/MethodHandle") (hy2 : y.cls ≠ "java/lang/invoke/VarHandle")
    (hpar : (parseMethodDescriptor y.desc).map (fun d => d.parameters.length) = some n) (hl : Cond.methodLink own k y ∈ pj_tbl) (hstat : Cond.static y ∈ pj_tbl) (hn : As.length = n) (hls : ls.size = nL) (hrest : (rest.map fun v => v.category).sum ≤ 8) (hc : cells ≤ R.cells) (hsl : slots ≤ R.slots)
    (hd : decode bytes pc = .ok (.invokestatic k, 3)) {stk : List Value} (hstk : stk = As.reverse ++ rest) (kk : W p l e R s m args below meth c H locs cells slots QW (F0 m (pc + 3) ls (r.toList ++ rest))) : W p l e R s m args below meth c H locs cells slots QW (F0 m pc ls stk) := by
  subst hstk
  exact pj_jback (va_runS (As := As) (rest := rest) ⟨X.1, X.2.1, X.2.2.1, X.2.2.2.1, X.2.2.2.2.1⟩ hM ⟨pj_jcB X hR1 hR2 hcode hini hy1 hy2 hpar hl, X.2.2.2.2.1 _ hstat⟩ ⟨pj_bj _ _ _, pj_jst X hS As⟩ rfl hn hls rfl (lv_room hrest) hd ⟨hc, hsl⟩) kk
theorem pj_jV (X : pj_Xj ω qv p s m args c bytes nL own) (hS : va_S (fun x => ω.2.2.2.2.1 ≤ x) s.heap H locs) {y : MethodName} {b2 : ByteArray} {maxL n k : Nat} {ret : Option FieldType} {r : Option Value} {As : List Value} (hM : Met l y (pj_wj y b2 maxL ret) (pj_rj d) (va_Pc (.ref ω.2.2.2.1 :: As) (pj_sv ω qv)) (pj_Qj r) 0 0 (fun _ => False))
    (hR1 : d + 1 ≤ R.frames) (hR2 : 8 + (maxL + 11) + 64 * d ≤ R.locals) (hcode : Cond.code y b2 maxL ret ∈ pj_tbl) (hini : Cond.initialized y.cls ∈ pj_tbl) (hy1 : y.cls ≠ "java/lang/invoke/MethodHandle") (hy2 : y.cls ≠ "java/lang/invoke/VarHandle")
    (hpar : (parseMethodDescriptor y.desc).map (fun d => d.parameters.length) = some n) (hl : Cond.methodLink own k y ∈ pj_tbl) (hin : Cond.instanceMethod y ∈ pj_tbl) (hse : Cond.selects "java/lang/String" y y ∈ pj_tbl) (hn : As.length = n) (hls : ls.size = nL) (hrest : (rest.map fun v => v.category).sum ≤ 8) (hc : cells ≤ R.cells) (hsl : slots ≤ R.slots)
    (hd : decode bytes pc = .ok (.invokevirtual k, 3)) {stk : List Value} (hstk : stk = As.reverse ++ .ref ω.2.2.2.1 :: rest) (kk : W p l e R s m args below meth c H locs cells slots QW (F0 m (pc + 3) ls (r.toList ++ rest))) : W p l e R s m args below meth c H locs cells slots QW (F0 m pc ls stk) := by
  subst hstk
  have hs := X.2.2.2.2.2.2
  exact pj_jback (va_runV (As := As) (rest := rest) (C := "java/lang/String") ⟨X.1, X.2.1, X.2.2.1, X.2.2.2.1, X.2.2.2.2.1⟩ hM ⟨pj_jcB X hR1 hR2 hcode hini hy1 hy2 hpar hl, X.2.2.2.2.1 _ hin, X.2.2.2.2.1 _ hse⟩ ⟨pj_bj _ _ _, vk_recv hs (i := 0) (by decide) hS, pj_jst X hS (.ref ω.2.2.2.1 :: As)⟩ rfl hn hls rfl (lv_room hrest) hd ⟨hc, hsl⟩) kk
end PJ
section PK
variable {l : Launch} {ω : pj_Wd} {qv : Nat}
abbrev jy1 : MethodName := ⟨"jdk/internal/util/Preconditions", "checkIndex", "(IILjava/util/function/BiFunction;)I"⟩
abbrev jy2 : MethodName := ⟨"java/lang/String", "checkIndex", "(II)V"⟩
abbrev jy3 : MethodName := ⟨"java/lang/StringLatin1", "charAt", "([BI)C"⟩
abbrev jy4 : MethodName := ⟨"java/lang/String", "isLatin1", "()Z"⟩
abbrev jy5 : MethodName := ⟨"java/lang/String", "charAt", "(I)C"⟩
theorem jw_1 {i n : Int32} (h1 : ¬ i < 0) (h2 : i < n) (v : Value) (hv : v = .null ∨ ∃ q, v = .ref q) : Met l jy1 (pj_wj jy1 prog_21_method_11_code 3 (some .int)) (pj_rj 1) (va_Pc [.int i, .int n, v] (pj_sv ω qv)) (pj_Qj (some (.int i))) 0 0 (fun _ => False) := by
  refine pj_jm (by decide) (by rcases hv with rfl | ⟨q, rfl⟩ <;> exact Nat.le_refl 3) (fun p e s m below meth c ls X hr hlk hl => ?_)
  have l0 : ls[0]? = some (.val (.int i)) := lv_at hl 0 rfl
  have l1 : ls[1]? = some (.val (.int n)) := lv_at hl 1 rfl
  refine lv_iload_n X.1 X.2.1 (k := 0) (by decide +kernel) rfl l0 ?_
  refine lv_if_lt (tgt := 9) (off := 8) X.1 X.2.1 (by decide +kernel) (by decide) (fun q => absurd q h1) (fun _ => ?_)
  refine lv_iload_n X.1 X.2.1 (k := 0) (by decide +kernel) rfl l0 ?_
  refine lv_iload_n X.1 X.2.1 (k := 1) (by decide +kernel) rfl l1 ?_
  refine lv_icmp_lt (tgt := 16) (off := 10) X.1 X.2.1 (by decide +kernel) (by decide) (fun _ => ?_) (fun q => absurd h2 q)
  refine lv_iload_n X.1 X.2.1 (k := 0) (by decide +kernel) rfl l0 ?_
  exact W.iret X.1 X.2.1 hr (fun t ht _ => ⟨rfl, ht⟩) (fun q h => by cases h) (by decide +kernel)
theorem jw_2 {i n : Int32} (h1 : ¬ i < 0) (h2 : i < n) : Met l jy2 (pj_wj jy2 prog_17_method_155_code 2 none) (pj_rj 2) (va_Pc [.int i, .int n] (pj_sv ω qv)) (pj_Qj none) 0 0 (fun _ => False) := by
  refine pj_jm (by decide) (Nat.le_refl 2) (fun p e s m below meth c ls X hr hlk hl => ?_)
  have l0 : ls[0]? = some (.val (.int i)) := lv_at hl 0 rfl
  have l1 : ls[1]? = some (.val (.int n)) := lv_at hl 1 rfl
  refine lv_iload_n X.1 X.2.1 (k := 0) (by decide +kernel) rfl l0 ?_
  refine lv_iload_n X.1 X.2.1 (k := 1) (by decide +kernel) rfl l1 ?_
  have tail : ∀ v : Value, (v = .null ∨ ∃ q, v = .ref q) → va_Z "jdk/internal/util/Preconditions" "SIOOBE_FORMATTER" "Ljava/util/function/BiFunction;" v (fun x => ω.2.2.2.2.1 ≤ x) s s.heap → W p l e (pj_rj 2) s m [Value.int i, Value.int n].toArray below meth c s.heap [] 0 0 (MQ below (pj_Qj none) [Value.int i, Value.int n].toArray s 0 0 (fun _ => False)) (F0 m 2 ls [.int n, .int i]) := by
    intro v hv hZ
    refine va_gets X.1 X.2.1 (index := 1053) hZ va_S.rf X.2.2.2.1 (X.2.2.2.2.1 _ (pj_tb1 (k := 172) (by decide +kernel))) (fun x h => h) (by decide +kernel) ?_
    refine pj_jS X va_S.rf (jw_1 h1 h2 v hv) (k := 1059) (rest := []) (n := 3) (by decide) (by decide) (pj_tb1 (k := 176) (by rfl)) (pj_tb1 (k := 8) (by decide +kernel)) (by decide) (by decide) (by decide +kernel) (pj_tb1 (k := 174) (by decide +kernel)) (pj_tb1 (k := 175) (by decide +kernel)) rfl hl.1 (by decide) (by decide) (by decide) (by decide +kernel) rfl ?_
    refine lv_pop X.1 X.2.1 (by decide +kernel) rfl ?_
    exact W.vret X.1 X.2.1 hr (fun t ht _ => ⟨rfl, ht⟩) (fun q h => by cases h) (by decide +kernel)
  rcases X.2.2.2.2.2.1.2.2.2 with h | ⟨q, h⟩
  · exact tail .null (Or.inl rfl) h
  · exact tail (.ref q) (Or.inr ⟨q, rfl⟩) h
theorem pj_litc : ∀ j, j < 132 → (((pj_by.getD j 0) &&& 255).toUInt32 % 65536).toInt32 = pj_ow pj_lit j ∧ narrow .char (.int (pj_ow pj_lit j)) = .int (pj_ow pj_lit j) := by decide +kernel
theorem jw_3 {i : Int32} (hi : vp_in i 132) (h2 : i < 132) : Met l jy3 (pj_wj jy3 prog_18_method_2_code 2 (some .char)) (pj_rj 3) (va_Pc [.ref qv, .int i] (pj_sv ω qv)) (pj_Qj (some (.int (pj_ow pj_lit i.toNatClampNeg)))) 0 0 (fun _ => False) := by
  have hlt : i.toNatClampNeg < 132 := Nat.not_le.mp fun q => hi (Or.inr q)
  have h1 : ¬ i < 0 := fun q => hi (Or.inl q)
  refine pj_jm (by decide) (Nat.le_refl 2) (fun p e s m below meth c ls X hr hlk hl => ?_)
  have l0 : ls[0]? = some (.val (.ref qv)) := lv_at hl 0 rfl
  have l1 : ls[1]? = some (.val (.int i)) := lv_at hl 1 rfl
  have hT := (X.2.2.2.2.2.2.1 0 (by decide)).2.2.2
  refine lv_iload_n X.1 X.2.1 (k := 1) (by decide +kernel) rfl l1 ?_
  refine lv_aload_n X.1 X.2.1 (k := 0) (by decide +kernel) rfl l0 ?_
  refine va_tlen X.1 X.2.1 hT va_S.rf (v := 132) (by decide) (by decide +kernel) ?_
  refine pj_jS X va_S.rf (jw_2 h1 h2) (k := 9) (rest := []) (n := 2) (by decide) (by decide) (pj_tb1 (k := 171) (by rfl)) (pj_tb1 (k := 6) (by decide +kernel)) (by decide) (by decide) (by decide +kernel) (pj_tb1 (k := 169) (by decide +kernel)) (pj_tb1 (k := 170) (by decide +kernel)) rfl hl.1 (by decide) (by decide) (by decide) (by decide +kernel) rfl ?_
  refine lv_aload_n X.1 X.2.1 (k := 0) (by decide +kernel) rfl l0 ?_
  refine lv_iload_n X.1 X.2.1 (k := 1) (by decide +kernel) rfl l1 ?_
  refine va_tb X.1 X.2.1 hT va_S.rf hi (v := .int (pj_by.getD i.toNatClampNeg 0)) rfl (by decide +kernel) ?_
  refine lv_sipush X.1 X.2.1 (n := 255) (v := 255) (by decide +kernel) (by decide) ?_
  refine lv_iand X.1 X.2.1 (by decide +kernel) ?_
  refine lv_i2c X.1 X.2.1 (by decide +kernel) (pj_litc _ hlt).1 ?_
  exact W.zret (ty := .char) X.1 X.2.1 hr (pj_litc _ hlt).2 (fun t ht _ => ⟨rfl, ht⟩) (fun q h => by cases h) (by decide +kernel)
theorem jw_4 : Met l jy4 (pj_wj jy4 prog_17_method_154_code 1 (some .boolean)) (pj_rj 1) (va_Pc [.ref ω.2.2.2.1] (pj_sv ω qv)) (pj_Qj (some (.int 1))) 0 0 (fun _ => False) := by
  refine pj_jm (by decide) (Nat.le_refl 1) (fun p e s m below meth c ls X hr hlk hl => ?_)
  have l0 : ls[0]? = some (.val (.ref ω.2.2.2.1)) := lv_at hl 0 rfl
  have hO := (X.2.2.2.2.2.2.1 0 (by decide)).2.1
  refine va_gets X.1 X.2.1 (index := 38) X.2.2.2.2.2.1.2.2.1 va_S.rf X.2.2.2.1 (X.2.2.2.2.1 _ (pj_tb1 (k := 164) (by decide +kernel))) (fun x h => h) (by decide +kernel) ?_
  refine lv_if_eq (tgt := 17) (off := 14) X.1 X.2.1 (by decide +kernel) (by decide) (fun q => absurd q (by decide)) (fun _ => ?_)
  refine lv_aload_n X.1 X.2.1 (k := 0) (by decide +kernel) rfl l0 ?_
  refine vk_getf X.1 X.2.1 (index := 15) hO va_S.rf X.2.2.2.1 (X.2.2.2.2.1 _ (pj_tb8 (k := 135) (by decide +kernel))) (fun x h => h) (by decide +kernel) ?_
  refine lv_if_ne (tgt := 17) (off := 7) X.1 X.2.1 (by decide +kernel) (by decide) (fun q => absurd rfl q) (fun _ => ?_)
  refine lv_iconst (n := 1) (v := 1) X.1 X.2.1 (by decide +kernel) (by decide) ?_
  refine lv_goto (off := 4) (tgt := 18) X.1 X.2.1 (by decide +kernel) (by decide) ?_
  exact W.zret (ty := .boolean) X.1 X.2.1 hr rfl (fun t ht _ => ⟨rfl, ht⟩) (fun q h => by cases h) (by decide +kernel)
theorem jw_5 {i : Int32} (hi : vp_in i 132) (h2 : i < 132) : Met l jy5 (pj_wj jy5 prog_17_method_56_code 2 (some .char)) (pj_rj 4) (va_Pc [.ref ω.2.2.2.1, .int i] (pj_sv ω qv)) (pj_Qj (some (.int (pj_ow pj_lit i.toNatClampNeg)))) 0 0 (fun _ => False) := by
  have hlt : i.toNatClampNeg < 132 := Nat.not_le.mp fun q => hi (Or.inr q)
  refine pj_jm (by decide) (Nat.le_refl 2) (fun p e s m below meth c ls X hr hlk hl => ?_)
  have l0 : ls[0]? = some (.val (.ref ω.2.2.2.1)) := lv_at hl 0 rfl
  have l1 : ls[1]? = some (.val (.int i)) := lv_at hl 1 rfl
  have hV := (X.2.2.2.2.2.2.1 0 (by decide)).2.2.1
  refine lv_aload_n X.1 X.2.1 (k := 0) (by decide +kernel) rfl l0 ?_
  refine pj_jV X va_S.rf jw_4 (As := []) (k := 492) (rest := []) (n := 0) (by decide) (by decide) (pj_tb1 (k := 163) (by rfl)) (pj_tb1 (k := 6) (by decide +kernel)) (by decide) (by decide) (by decide +kernel) (pj_tb1 (k := 160) (by decide +kernel)) (pj_tb1 (k := 161) (by decide +kernel)) (pj_tb1 (k := 162) (by decide +kernel)) rfl hl.1 (by decide) (by decide) (by decide) (by decide +kernel) rfl ?_
  refine lv_if_eq (tgt := 16) (off := 12) X.1 X.2.1 (by decide +kernel) (by decide) (fun q => absurd q (by decide)) (fun _ => ?_)
  refine lv_aload_n X.1 X.2.1 (k := 0) (by decide +kernel) rfl l0 ?_
  refine vk_getf X.1 X.2.1 (index := 9) hV va_S.rf X.2.2.2.1 (X.2.2.2.2.1 _ (pj_tb8 (k := 136) (by decide +kernel))) (fun x h => h) (by decide +kernel) ?_
  refine lv_iload_n X.1 X.2.1 (k := 1) (by decide +kernel) rfl l1 ?_
  refine pj_jS X va_S.rf (jw_3 hi h2) (k := 495) (rest := []) (n := 2) (by decide) (by decide) (pj_tb1 (k := 168) (by rfl)) (pj_tb1 (k := 7) (by decide +kernel)) (by decide) (by decide) (by decide +kernel) (pj_tb1 (k := 166) (by decide +kernel)) (pj_tb1 (k := 167) (by decide +kernel)) rfl hl.1 (by decide) (by decide) (by decide) (by decide +kernel) rfl ?_
  exact W.zret (ty := .char) X.1 X.2.1 hr (pj_litc _ hlt).2 (fun t ht _ => ⟨rfl, ht⟩) (fun q h => by cases h) (by decide +kernel)
end PK
section PT
variable {ω : pj_Wd} {p : Program} {l : Launch} {e : Env} {R : Room} {s : State} {m : MethodId} {args : Array Value} {below : List Frame} {meth : Method} {c : Code} {nL : Nat} {QW : State → Prop} {bytes : ByteArray} {pc : Nat} {Z : pj_Z} {I : Nat → Nat → Int32} {J : Nat → Nat → Int64} {H : Heap} {locs : List Loc} {ls : Array Slot} {cells slots : Nat} {rest : List Value}
theorem pj_chr (X : pj_X ω p R s m args c bytes nL 6) (hR1 : 8 ≤ R.frames) (hR2 : 512 ≤ R.locals) {i : Int32} (hd : decode bytes pc = .ok (.invokevirtual 40, 3)) (g : pj_wd ω s Z I J H locs cells) (hi : vp_in i 132) (hls : ls.size = nL) (hcc : cells ≤ R.cells) (hss : slots ≤ R.slots) (hrest : (rest.map fun v => v.category).sum ≤ 8)
    (kk : W p l e R s m args below meth c H locs cells slots QW (F0 m (pc + 3) ls (.int (pj_ow pj_lit i.toNatClampNeg) :: rest))) : W p l e R s m args below meth c H locs cells slots QW (F0 m pc ls (.int i :: .ref (pj_ad ω 1) :: rest)) := by
  have hst := X.2.2.2.2.2.2.2.2.2.2
  obtain ⟨qv, hqv⟩ := hst.2.1
  have hlt : i.toNatClampNeg < 132 := Nat.not_le.mp fun q => hi (Or.inr q)
  have h1 : ¬ i < 0 := fun q => hi (Or.inl q)
  have h2 : i < 132 := by
    rw [Int32.lt_iff_toInt_lt]
    have h3 : (0 : Int) ≤ i.toInt := by
      have := Int32.not_lt.mp h1
      simpa using Int32.le_iff_toInt_le.mp this
    have h4 : i.toInt.toNat < 132 := hlt
    show i.toInt < 132
    omega
  have XJ : pj_Xj ω qv p s m args c bytes nL "PegCoats$Scanner" := ⟨X.1, X.2.1, X.2.2.1, X.2.2.2.1, X.2.2.2.2.1, hst, hqv⟩
  exact pj_jV XJ g.2.2.2.1 (jw_5 hi h2) (As := [.int i]) (k := 40) (rest := rest) (n := 1) (by omega) (by omega) (pj_tb1 (k := 159) (by rfl)) (pj_tb1 (k := 6) (by decide +kernel)) (by decide) (by decide) (by decide +kernel) (pj_tb1 (k := 156) (by decide +kernel)) (pj_tb1 (k := 157) (by decide +kernel)) (pj_tb1 (k := 158) (by decide +kernel)) rfl hls hrest hcc hss hd rfl kk
end PT
end
section
/-! a table of ints is made -/
theorem pj_outer (c : ClassId) (N h0 : Nat) : ∀ i : Nat, Jvm.Free.Multi.outerC c N h0 i = arrV c N (fun j => va_rf (if j < i then some (h0 + 1 + j) else none))
  | 0 => by
    show ({ cls := c, slots := Array.replicate N .null, vm := .none } : Cell) = _
    rw [arrV_new]
    refine congrArg (arrV c N) (funext fun j => ?_)
    simp [va_rf]
  | i + 1 => by
    show (Jvm.Free.Multi.outerC c N h0 i).setSlot i (.ref (h0 + 1 + i)) = _
    rw [pj_outer c N h0 i, arrV_store]
    refine congrArg (arrV c N) (funext fun j => ?_)
    by_cases e : j = i
    · subst e
      simp [updV, va_rf]
    · by_cases h : j < i
      · simp [updV, e, h, Nat.lt_succ_of_lt h]
      · simp [updV, e, h, show ¬ j < i + 1 by omega]
section PT
variable {ω : pj_Wd} {p : Program} {l : Launch} {e : Env} {R : Room} {s : State} {m : MethodId} {args : Array Value} {below : List Frame} {meth : Method} {c : Code} {nL : Nat} {QW : State → Prop} {bytes : ByteArray} {own : Nat} {pc : Nat} {Z : pj_Z} {I : Nat → Nat → Int32} {J : Nat → Nat → Int64} {H : Heap} {locs : List Loc} {ls : Array Slot} {cells slots : Nat} {rest : List Value}
set_option maxRecDepth 8000 in
theorem pj_mna (X : pj_X ω p R s m args c bytes nL own) {k : Nat} {n q : Int32} (hd : decode bytes pc = .ok (.multianewarray k 2, 4)) (ho : (own = 2 ∧ k = 9) ∨ (own = 9 ∧ k = 26)) (g : pj_wd ω s Z I J H locs cells) (hn : ¬ n < 0) (hq : ¬ q < 0) (hb1 : n.toNatClampNeg ≤ 1000) (hb2 : q.toNatClampNeg ≤ 1000)
    (hc : cells + (1 + n.toNatClampNeg) ≤ R.cells) (hs : slots + (n.toNatClampNeg + n.toNatClampNeg * q.toNatClampNeg) ≤ R.slots)
    (kk : ∀ H1, pj_wd ω s (pj_nZ2 Z n.toNatClampNeg q.toNatClampNeg) (pj_nI2 I Z.1 n.toNatClampNeg) J H1 locs (cells + 1 + n.toNatClampNeg) → W p l e R s m args below meth c H1 locs (cells + 1 + n.toNatClampNeg) (slots + n.toNatClampNeg + n.toNatClampNeg * q.toNatClampNeg) QW (F0 m (pc + 4) ls (.ref (pj_ad ω Z.1) :: rest))) :
    W p l e R s m args below meth c H locs cells slots QW (F0 m pc ls (.int q :: .int n :: rest)) := by
  refine pj_size X g (fun hsz hsz2 => ?_)
  intro T hT XX
  have hclink : (Cond.classLink (cn own) k ("[" ++ (FieldType.array .int).toString)).before args s = true := by
    rcases ho with ⟨rfl, rfl⟩ | ⟨rfl, rfl⟩
    · exact X.2.2.2.2.1 _ (pj_tb (k := 371) (by decide +kernel))
    · exact X.2.2.2.2.1 _ (pj_tb (k := 416) (by decide +kernel))
  have hover : (Cond.arrayOver (.array .int)).before args s = true := X.2.2.2.2.1 _ (pj_tb (k := 372) (by decide +kernel))
  have harr : (Cond.arrayClass .int).before args s = true := X.2.2.2.2.1 _ (pj_tb (k := 46) (by decide +kernel))
  obtain ⟨vm₁, cA, comp, -, fA, fC, -, -, X', step⟩ := XX.multianewarray2F X.1 X.2.2.2.1 hclink hover harr (g := F0 m pc ls (.int q :: .int n :: rest)) rfl (by rw [X.2.1]; exact hd) rfl hn hq (by omega) (by show q.toNatClampNeg * 4 ≤ _; omega) (by omega) rfl rfl hc hs
  have hK := X.2.2.2.2.2.1
  have eA : cA = ω.2.1 4 := Option.some.inj (fA.symm.trans (pj_RA (hK.2 4 _ pj_t4).2))
  have eC : comp = ω.2.1 0 := Option.some.inj (fC.symm.trans (pj_RA (hK.2 0 _ pj_t0).2))
  subst eA
  subst eC
  generalize hF : Jvm.Free.Multi.fill (T.setVm vm₁) (ω.2.1 4) (ω.2.1 0) n.toNatClampNeg q.toNatClampNeg (defaultValue .int) n.toNatClampNeg = F at X' step
  have hTh : (T.setVm vm₁).heap = H := hT
  obtain ⟨f1, f2, -, -⟩ := Jvm.Free.Multi.fill_facts (T.setVm vm₁) (ω.2.1 4) (ω.2.1 0) n.toNatClampNeg q.toNatClampNeg (defaultValue .int) n.toNatClampNeg
  rw [hF, hTh] at f1 f2
  have hold : ∀ x : Nat, x < H.size → F.heap[x]? = H[x]? := fun x hx => by
    have := Jvm.Free.Multi.fill_old (T.setVm vm₁) (ω.2.1 4) (ω.2.1 0) n.toNatClampNeg q.toNatClampNeg (defaultValue .int) (a := x) (by rw [hTh]; exact hx) n.toNatClampNeg
    rw [hF, hTh] at this
    exact this
  have hrow : ∀ j : Nat, j < n.toNatClampNeg → F.heap[H.size + 1 + j]? = some (vp_cell (ω.2.1 0) (q.toNatClampNeg, .inl (fun _ => 0))) := fun j hj => by
    have := Jvm.Free.Multi.fill_inner (T.setVm vm₁) (ω.2.1 4) (ω.2.1 0) n.toNatClampNeg q.toNatClampNeg (defaultValue .int) n.toNatClampNeg j hj
    rw [hF, hTh] at this
    rw [this, vp_cell_i, ← arrV_new]
    rfl
  rw [pj_outer] at f2
  obtain ⟨⟨w1, w2, w3, w4⟩, g2, g3, g4, g5, g6⟩ := g
  have hne : ∀ k, k < Z.1 → k ≠ Z.1 ∧ ¬ (Z.1 < k ∧ k < Z.1 + 1 + n.toNatClampNeg) := fun k h => ⟨by omega, by omega⟩
  have hwd : pj_wd ω s (pj_nZ2 Z n.toNatClampNeg q.toNatClampNeg) (pj_nI2 I Z.1 n.toNatClampNeg) J F.heap locs (cells + 1 + n.toNatClampNeg) := by
    refine ⟨⟨by show 2 ≤ Z.1 + 1 + n.toNatClampNeg; omega, ?_, ?_, fun k hk => ?_⟩, fun k x hx => ?_, ?_, ⟨by rw [f1]; have := g4.1; omega, fun x h1 h2 => (hold x (Nat.lt_of_lt_of_le h1 g4.1)).trans (g4.2.1 x h1 h2), g4.2.2⟩, ?_, ?_⟩
    · show (if 0 = Z.1 then 17 else if Z.1 < 0 ∧ 0 < Z.1 + 1 + n.toNatClampNeg then 13 else Z.2.1 0) = 18
      rw [if_neg (hne 0 (by omega)).1, if_neg (hne 0 (by omega)).2]; exact w2
    · show (if 1 = Z.1 then 17 else if Z.1 < 1 ∧ 1 < Z.1 + 1 + n.toNatClampNeg then 13 else Z.2.1 1) = 19
      rw [if_neg (hne 1 (by omega)).1, if_neg (hne 1 (by omega)).2]; exact w3
    · have hk : Z.1 + 1 + n.toNatClampNeg ≤ k := hk
      show (if k = Z.1 then 17 else if Z.1 < k ∧ k < Z.1 + 1 + n.toNatClampNeg then 13 else Z.2.1 k) = 20
      rw [if_neg (by omega), if_neg (by omega)]; exact w4 k (by omega)
    · obtain ⟨hk, rfl⟩ := pj_wl_inv hx
      have hk : k + 2 < Z.1 + 1 + n.toNatClampNeg := hk
      rcases Nat.lt_trichotomy (k + 2) Z.1 with h | h | h
      · have ho := g2 k _ (pj_wl_get h)
        have hlt : ω.2.2.2.2.1 + k < H.size := ho.lt
        have e1 : pj_we ω (pj_nZ2 Z n.toNatClampNeg q.toNatClampNeg) (pj_nI2 I Z.1 n.toNatClampNeg) J (k + 2) = pj_we ω Z I J (k + 2) := by
          have h1 := hne (k + 2) h
          refine pj_we_eq ?_ ?_ ?_ ?_ rfl
          · show (if k + 2 = Z.1 then 17 else if Z.1 < k + 2 ∧ k + 2 < Z.1 + 1 + n.toNatClampNeg then 13 else Z.2.1 (k + 2)) = _
            rw [if_neg h1.1, if_neg h1.2]
          · show (if k + 2 = Z.1 then n.toNatClampNeg else if Z.1 < k + 2 ∧ k + 2 < Z.1 + 1 + n.toNatClampNeg then q.toNatClampNeg else Z.2.2.1 (k + 2)) = _
            rw [if_neg h1.1, if_neg h1.2]
          · show (if k + 2 = Z.1 then _ else Z.2.2.2 (k + 2)) = _
            rw [if_neg h1.1]
          · show (if Z.1 < k + 2 ∧ k + 2 < Z.1 + 1 + n.toNatClampNeg then _ else I (k + 2)) = _
            rw [if_neg h1.2]
        rw [e1]
        exact ho.kept (hold _ hlt)
      · have hkd : (pj_nZ2 Z n.toNatClampNeg q.toNatClampNeg).2.1 (k + 2) = 17 := by
          show (if k + 2 = Z.1 then 17 else _) = 17
          rw [if_pos h]
        have hln : (pj_nZ2 Z n.toNatClampNeg q.toNatClampNeg).2.2.1 (k + 2) = n.toNatClampNeg := by
          show (if k + 2 = Z.1 then n.toNatClampNeg else _) = _
          rw [if_pos h]
        have hrr : (pj_nZ2 Z n.toNatClampNeg q.toNatClampNeg).2.2.2 (k + 2) = fun j => if j < n.toNatClampNeg then some (Z.1 + 1 + j) else none := by
          show (if k + 2 = Z.1 then _ else _) = _
          rw [if_pos h]
        rw [pj_we_17 hkd, hln, hrr]
        show F.heap[ω.2.2.2.2.1 + k]? = some (vp_cell (ω.2.1 4) _)
        rw [show ω.2.2.2.2.1 + k = H.size by omega, f2, vp_cell_q]
        congr 2
        funext j
        by_cases hj : j < n.toNatClampNeg
        · rw [if_pos hj]; dsimp only; rw [if_pos hj]
          show va_rf (some (H.size + 1 + j)) = va_rf (some (pj_ad ω (Z.1 + 1 + j)))
          rw [show Z.1 + 1 + j = (Z.1 - 2 + 1 + j) + 2 by omega]
          show va_rf (some (H.size + 1 + j)) = va_rf (some (ω.2.2.2.2.1 + (Z.1 - 2 + 1 + j)))
          rw [show H.size + 1 + j = ω.2.2.2.2.1 + (Z.1 - 2 + 1 + j) by omega]
        · rw [if_neg hj]; dsimp only; rw [if_neg hj]
          rfl
      · have hkd : (pj_nZ2 Z n.toNatClampNeg q.toNatClampNeg).2.1 (k + 2) = 13 := by
          show (if k + 2 = Z.1 then 17 else if Z.1 < k + 2 ∧ k + 2 < Z.1 + 1 + n.toNatClampNeg then 13 else Z.2.1 (k + 2)) = 13
          rw [if_neg (by omega), if_pos ⟨h, hk⟩]
        have hln : (pj_nZ2 Z n.toNatClampNeg q.toNatClampNeg).2.2.1 (k + 2) = q.toNatClampNeg := by
          show (if k + 2 = Z.1 then n.toNatClampNeg else if Z.1 < k + 2 ∧ k + 2 < Z.1 + 1 + n.toNatClampNeg then q.toNatClampNeg else Z.2.2.1 (k + 2)) = _
          rw [if_neg (by omega), if_pos ⟨h, hk⟩]
        have hii : pj_nI2 I Z.1 n.toNatClampNeg (k + 2) = fun _ => 0 := by
          show (if Z.1 < k + 2 ∧ k + 2 < Z.1 + 1 + n.toNatClampNeg then _ else I (k + 2)) = _
          rw [if_pos ⟨h, hk⟩]
        rw [pj_we_13 hkd, hln, hii]
        show F.heap[ω.2.2.2.2.1 + k]? = some (vp_cell (ω.2.1 0) _)
        rw [show ω.2.2.2.2.1 + k = H.size + 1 + (k + 2 - Z.1 - 1) by omega]
        exact hrow _ (by omega)
    · show s.heap.size + (cells + 1 + n.toNatClampNeg) = ω.2.2.2.2.1 + (Z.1 + 1 + n.toNatClampNeg - 2)
      omega
    · show (if 0 = Z.1 then n.toNatClampNeg else if Z.1 < 0 ∧ 0 < Z.1 + 1 + n.toNatClampNeg then q.toNatClampNeg else Z.2.2.1 0) = _
      rw [if_neg (hne 0 (by omega)).1, if_neg (hne 0 (by omega)).2]; exact g5
    · show (if Z.1 < 0 ∧ 0 < Z.1 + 1 + n.toNatClampNeg then _ else I 0) = _
      rw [if_neg (hne 0 (by omega)).2]; exact g6
  obtain ⟨t, a1, b1⟩ := kk F.heap hwd F rfl X'
  refine ⟨t, step t ?_, b1⟩
  have e : T.heap.size = pj_ad ω Z.1 := by rw [hT, hsz]; exact pj_adn w1
  rw [e]
  exact a1
end PT
end
section
/-! one instruction of the pure machine is one of the machine -/
section PT
variable {ω : pj_Wd} {p : Program} {l : Launch} {e : Env} {R : Room} {s : State} {m : MethodId} {args : Array Value} {below : List Frame} {meth : Method} {c : Code} {nL : Nat} {QW : State → Prop} {bytes : ByteArray} {own d : Nat} {pc : Nat} {L : pj_L} {st : List Value} {Z : pj_Z} {I : Nat → Nat → Int32} {J : Nat → Nat → Int64} {bc bs : Nat} {C : pj_CT} {H : Heap} {locs : List Loc} {ls : Array Slot} {cells slots : Nat} {rest : List Value}
theorem pj_ldcS (X : pj_X ω p R s m args c bytes nL 6) (hd : decode bytes pc = .ok (.ldc 38, 2)) (kk : W p l e R s m args below meth c H locs cells slots QW (F0 m (pc + 2) ls (.ref (pj_ad ω 1) :: rest))) : W p l e R s m args below meth c H locs cells slots QW (F0 m pc ls rest) :=
  va_ldcS X.1 X.2.1 X.2.2.2.1 X.2.2.2.2.2.2.2.2.2.2.1 hd kk
theorem pj_obi (X : pj_X ω p R s m args c bytes nL own) {k : Nat} {a : Nat} (hl : Cond.methodLink (cn own) k objectInit ∈ pj_tbl) (hd : decode bytes pc = .ok (.invokespecial k, 3)) (hls : ls.size = nL) (hrest : (rest.map fun v => v.category).sum ≤ 8) (kk : W p l e R s m args below meth c H locs cells slots QW (F0 m (pc + 3) ls rest)) : W p l e R s m args below meth c H locs cells slots QW (F0 m pc ls (.ref a :: rest)) :=
  W.objInit X.1 X.2.1 X.2.2.2.1 (X.2.2.2.2.1 _ hl) (X.2.2.2.2.1 _ (pj_tb1 (k := 27) (by decide +kernel))) (X.2.2.2.2.1 _ (pj_tb1 (k := 28) (by decide +kernel))) (g := F0 m pc ls (.ref a :: rest)) rfl (by rw [X.2.2.1]; exact hls) rfl hd X.2.2.2.2.2.2.2.2.2.1 (by show 2 * 0 + _ + 12 ≤ _; have := X.2.2.2.2.2.2.2.2.1; omega) kk
theorem pj_putR (X : pj_X ω p R s m args c bytes nL own) {ini : Bool} (hini : ini = true → meth.name = "<init>") {k x y : Nat} (hd : decode bytes pc = .ok (.putfield k, 3))
    (hF : (cpF.any fun q => Nat.beq q.1 own && Nat.beq q.2.1 k && Nat.beq q.2.2.1 x && Nat.beq q.2.2.2.1 y && Nat.beq q.2.2.2.2.1 2 && (!pj_fin x y || (ini && Nat.beq own x && !q.2.2.2.2.2.2))) = true)
    {a b : Nat} (ha : Z.2.1 a = x) (g : pj_wd ω s Z I J H locs cells) (hv : narrow (pj_ty x y) (.ref (pj_ad ω b)) = .ref (pj_ad ω b) ∧ fits (pj_ty x y) (.ref (pj_ad ω b)) = true)
    (kk : ∀ H1 locs1, pj_wd ω s (Z.1, Z.2.1, Z.2.2.1, pj_u Z.2.2.2 a y (some b)) I J H1 locs1 cells → W p l e R s m args below meth c H1 locs1 cells slots QW (F0 m (pc + 3) ls rest)) :
    W p l e R s m args below meth c H locs cells slots QW (F0 m pc ls (.ref (pj_ad ω b) :: .ref (pj_ad ω a) :: rest)) := by
  refine pj_put X hini hd hF ha g (v := .ref (pj_ad ω b)) hv (Z' := (Z.1, Z.2.1, Z.2.2.1, pj_u Z.2.2.2 a y (some b))) (I' := I) (J' := J) (fun hft j => ?_) ⟨rfl, rfl, rfl⟩ (fun j hj => pj_we_eq rfl rfl (pj_u_fun _ _ _ _ hj) rfl rfl) rfl kk
  by_cases hj : j = y
  · subst hj
    rw [if_pos rfl]
    unfold pj_fv
    rw [hft]
    show va_rf (Option.map (pj_ad ω) (pj_u Z.2.2.2 a j (some b) a j)) = _
    rw [pj_u_same]
    rfl
  · rw [if_neg hj]
    unfold pj_fv
    show (match pj_ft x j with | 0 => _ | 1 => _ | 2 => va_rf (Option.map (pj_ad ω) (pj_u Z.2.2.2 a y (some b) a j)) | _ => _) = _
    rw [pj_u_col _ _ _ _ _ hj]
    rfl
end PT
end
section
/-! the step, by cases -/
section PM
variable {ω : pj_Wd} {p : Program} {l : Launch} {e : Env} {R : Room} {s : State} {m : MethodId} {args : Array Value} {below : List Frame} {meth : Method} {c : Code} {nL : Nat} {QW : State → Prop} {bytes : ByteArray} {own d : Nat} {pc : Nat} {L : pj_L} {st : List Value} {Z : pj_Z} {I : Nat → Nat → Int32} {J : Nat → Nat → Int64} {bc bs : Nat} {C : pj_CT} {rt : Bool} {Q : pj_K} {rk : Nat} {ini : Bool}
/-- the ends of a body -/
def pj_end (ω : pj_Wd) (p : Program) (l : Launch) (e : Env) (R : Room) (s : State) (m : MethodId) (args : Array Value) (below : List Frame) (meth : Method) (c : Code) (bytes : ByteArray) (QW : State → Prop) (rt : Bool) (rk : Nat) (Q : pj_K) : Prop :=
  (∀ (pc : Nat) (H : Heap) (locs : List Loc) (ls : Array Slot) (Z : pj_Z) (I : Nat → Nat → Int32) (J : Nat → Nat → Int64) (a : Int32), (rk = 1 ∨ rk = 3) → decode bytes pc = .ok (.ireturn, 1) → (rt = true → a &&& 1 = a) → Q (some (.int a)) (Z, I, J) → pj_wd ω s Z I J H locs R.cells → W p l e R s m args below meth c H locs R.cells R.slots QW (F0 m pc ls [.int a])) ∧
  (∀ (pc : Nat) (H : Heap) (locs : List Loc) (ls : Array Slot) (Z : pj_Z) (I : Nat → Nat → Int32) (J : Nat → Nat → Int64) (a : Int64), rk = 2 → decode bytes pc = .ok (.lreturn, 1) → Q (some (.long a)) (Z, I, J) → pj_wd ω s Z I J H locs R.cells → W p l e R s m args below meth c H locs R.cells R.slots QW (F0 m pc ls [.long a])) ∧
  (∀ (pc : Nat) (H : Heap) (locs : List Loc) (ls : Array Slot) (Z : pj_Z) (I : Nat → Nat → Int32) (J : Nat → Nat → Int64), rk = 0 → decode bytes pc = .ok (.return_, 1) → Q none (Z, I, J) → pj_wd ω s Z I J H locs R.cells → W p l e R s m args below meth c H locs R.cells R.slots QW (F0 m pc ls []))
theorem pj_lrs {ls : Array Slot} (h : pj_lr ω ls nL L) : ls.size = nL := by
  obtain ⟨-, lv, h1, -⟩ := h
  exact h1.1
theorem pj_map_split {y : Nat} (hy : y ≤ st.length) : st.map (pj_cv ω) = (((st.take y).reverse).map (pj_cv ω)).reverse ++ (st.drop y).map (pj_cv ω) := by
  rw [← List.map_reverse, List.reverse_reverse, ← List.map_append, List.take_append_drop]
theorem pj_tail (r : Option Value) (st : List Value) : (r.map (pj_cv ω)).toList ++ st.map (pj_cv ω) = (r.toList ++ st).map (pj_cv ω) := by cases r <;> rfl
/-- calls of ours -/
theorem pj_stepC (X : pj_X ω p R s m args c bytes nL own) (hM : pj_hM l ω C d) (hR1 : d + 11 ≤ R.frames) (hR2 : 64 * d + 704 ≤ R.locals) {k x y z kind : Nat} {inst : Bool} (hx : Nat.ble 1000 x = false) (hl : (cpM.any fun q => Nat.beq q.1 own && Nat.beq q.2.1 k && Nat.beq q.2.2.1 x) = true) (hv : pj_okV kind x y z = true)
    (hk : (kind = 0 ∧ inst = true ∧ decode bytes pc = .ok (.invokevirtual k, 3)) ∨ (kind = 1 ∧ inst = false ∧ decode bytes pc = .ok (.invokestatic k, 3)) ∨ (kind = 2 ∧ inst = true ∧ decode bytes pc = .ok (.invokespecial k, 3))) {mc ms : Nat} (hm : (mc = (ta x).1 ∧ ms = (ta x).2) ∨ (kind ≠ 2 ∧ mc = 0 ∧ ms = 0))
    (h : pj_call C (pj_W ω p l e R s m args below meth c nL QW) x y z (pc + 3) inst L st Z I J bc bs mc ms) : pj_W ω p l e R s m args below meth c nL QW pc L st Z I J bc bs := by
  have hx2 : x < 1000 := by
    rcases Nat.lt_or_ge x 1000 with q | q
    · exact q
    · rw [Nat.ble_eq_true_of_le q] at hx; cases hx
  unfold pj_okV at hv
  rw [hx] at hv
  dsimp only at hv
  cases ht : tm x with
  | none => rw [ht] at hv; cases hv
  | some t =>
    rw [ht] at hv
    dsimp only at hv
    simp only [Bool.and_eq_true, Bool.or_eq_true] at hv
    obtain ⟨⟨⟨v1, v2⟩, v3⟩, v4⟩ := hv
    have v1 := Nat.eq_of_beq_eq_true v1
    have v2 := Nat.eq_of_beq_eq_true v2
    have hms : mc = (ta x).1 ∧ ms = (ta x).2 := by
      rcases hm with hm | ⟨q1, q2, q3⟩
      · exact hm
      · rcases v4 with v4 | v4
        · exact absurd (Nat.eq_of_beq_eq_true v4) q1
        · exact ⟨by rw [q2, Nat.eq_of_beq_eq_true v4.1], by rw [q3, Nat.eq_of_beq_eq_true v4.2]⟩
    obtain ⟨rfl, rfl⟩ := hms
    unfold pj_call at h
    obtain ⟨hb, h⟩ := pj_c_e h
    simp only [Bool.and_eq_true] at hb
    obtain ⟨⟨⟨b1, b2⟩, b3⟩, b4⟩ := hb
    have b1 := Nat.le_of_ble_eq_true b1
    have b2 := Nat.le_of_ble_eq_true b2
    have b3 := Nat.le_of_ble_eq_true b3
    have b4 := Nat.le_of_ble_eq_true b4
    intro H locs ls cells slots g1 g2 g3 g4
    have hrest : (((st.drop y).map (pj_cv ω)).map fun v => v.category).sum ≤ 8 := by rw [pj_cv_sum]; exact b2
    have hlen : (st.take y).reverse.length = y := by rw [List.length_reverse, List.length_take]; omega
    rw [pj_map_split b1]
    rcases hk with ⟨rfl, rfl, hd⟩ | ⟨rfl, rfl, hd⟩ | ⟨rfl, rfl, hd⟩
    · obtain ⟨a, As, hAs, h⟩ := pj_pR_e h
      obtain ⟨ha, h⟩ := pj_c_e h
      rw [hAs] at h hlen ⊢
      have v3 : z = t.2.1.1 := by
        rcases v3 with v3 | v3
        · cases v3
        · exact Nat.eq_of_beq_eq_true v3
      have v2 : y = (mp x).1 + 1 := v2
      rw [List.map_cons, List.reverse_cons, List.append_assoc, List.singleton_append]
      refine pj_cV X hM hR1 hR2 hx2 ht v1 v3 hl (by rw [List.length_cons] at hlen; omega) (Nat.eq_of_beq_eq_true ha) hrest hd g1 (pj_lrs g4) (by omega) (by omega) h (fun r σ H1 locs1 hK hwd => ?_)
      rw [pj_tail]
      exact hK H1 locs1 ls _ _ hwd (by omega) (by omega) g4
    · have v2 : y = (mp x).1 + 0 := v2
      refine pj_cS X hM hR1 hR2 hx2 ht v1 hl (by rw [hlen]; omega) hrest hd g1 (pj_lrs g4) (by omega) (by omega) h (fun r σ H1 locs1 hK hwd => ?_)
      rw [pj_tail]
      exact hK H1 locs1 ls _ _ hwd (by omega) (by omega) g4
    · obtain ⟨a, As, hAs, h⟩ := pj_pR_e h
      obtain ⟨ha, h⟩ := pj_c_e h
      rw [hAs] at h hlen ⊢
      have v2 : y = (mp x).1 + 1 := v2
      rw [List.map_cons, List.reverse_cons, List.append_assoc, List.singleton_append]
      refine pj_cI X hM hR1 hR2 hx2 ht v1 hl (by rw [List.length_cons] at hlen; omega) hrest hd g1 (pj_lrs g4) (by omega) (by omega) h (fun r σ H1 locs1 hK hwd => ?_)
      rw [pj_tail]
      exact hK H1 locs1 ls _ _ hwd (by omega) (by omega) g4
end PM
end
section
/-! every instruction -/
section PZ
variable {ω : pj_Wd} {p : Program} {l : Launch} {e : Env} {R : Room} {s : State} {m : MethodId} {args : Array Value} {below : List Frame} {meth : Method} {c : Code} {nL : Nat} {QW : State → Prop} {bytes : ByteArray} {own d : Nat} {pc : Nat} {L : pj_L} {st : List Value} {Z : pj_Z} {I : Nat → Nat → Int32} {J : Nat → Nat → Int64} {bc bs : Nat} {C : pj_CT} {rt : Bool} {Q : pj_K} {rk : Nat} {ini : Bool}
theorem pj_ftN (a : Int32) : ∀ ty, pj_ftc ty = 0 → narrow ty (.int a) = .int a ∧ fits ty (.int a) = true := by
  intro ty h
  cases ty <;> first | exact ⟨rfl, rfl⟩ | cases h
theorem pj_ftL (a : Int64) : ∀ ty, pj_ftc ty = 1 → narrow ty (.long a) = .long a ∧ fits ty (.long a) = true := by
  intro ty h
  cases ty <;> first | exact ⟨rfl, rfl⟩ | cases h
theorem pj_b01 {a : Int32} (h : a &&& 1 = a) : a = 0 ∨ a = 1 := by
  have h1 : (a &&& 1).toBitVec.toNat ≤ 1 := by
    rw [Int32.toBitVec_and, BitVec.toNat_and]
    exact Nat.and_le_right
  rw [h] at h1
  rcases Nat.lt_or_ge a.toBitVec.toNat 1 with q | q
  · left
    apply Int32.toBitVec_inj.mp
    apply BitVec.eq_of_toNat_eq
    show a.toBitVec.toNat = 0
    omega
  · right
    apply Int32.toBitVec_inj.mp
    apply BitVec.eq_of_toNat_eq
    show a.toBitVec.toNat = 1
    omega
theorem pj_ftZ {a : Int32} (h : a &&& 1 = a) : ∀ ty, pj_ftc ty = 3 → narrow ty (.int a) = .int a ∧ fits ty (.int a) = true := by
  intro ty hz
  cases ty <;> first | cases hz | skip
  refine ⟨by show Value.int (a &&& 1) = _; rw [h], ?_⟩
  rcases pj_b01 h with rfl | rfl <;> rfl
theorem pj_put1 {k x y z : Nat} {f : Nat × Nat × Nat × Nat × Nat × Nat × Bool → Bool} {P : FieldType → Prop} (h3 : (cpF.any fun q => Nat.beq q.1 own && Nat.beq q.2.1 k && Nat.beq q.2.2.1 x && Nat.beq q.2.2.2.1 y && Nat.beq q.2.2.2.2.1 z && f q) = true) (hP : ∀ ty, pj_ftc ty = z → P ty) : P (pj_ty x y) := by
  have h3' : (cpF.any fun q => Nat.beq q.1 own && Nat.beq q.2.1 k && Nat.beq q.2.2.1 x && Nat.beq q.2.2.2.1 y && Nat.beq q.2.2.2.2.1 z) = true := by
    obtain ⟨q, hq, h⟩ := List.any_eq_true.mp h3
    rw [Bool.and_eq_true] at h
    exact List.any_eq_true.mpr ⟨q, hq, h.1⟩
  obtain ⟨r, hr, -, -, hft, -⟩ := pj_fld h3'
  exact hP _ hft
theorem pj_noC (hCn : ∀ x as σ K, tm x = none → C x as σ K → False) {go : pj_G} {x y z nx mc ms : Nat} {inst : Bool} (hx : 1000 ≤ x) (h : pj_call C go x y z nx inst L st Z I J bc bs mc ms) : False := by
  have ht : tm x = none := by
    unfold tm
    rw [show Nat.blt x 266 = false by rw [← Bool.not_eq_true, Nat.blt_eq]; omega]
    rfl
  unfold pj_call at h
  obtain ⟨-, h⟩ := pj_c_e h
  cases inst
  · exact hCn _ _ _ _ ht h
  · obtain ⟨a, r, -, h⟩ := pj_pR_e h
    obtain ⟨-, h⟩ := pj_c_e h
    exact hCn _ _ _ _ ht h
set_option maxHeartbeats 4000000 in
set_option maxRecDepth 8000 in
theorem pj_step (X : pj_X ω p R s m args c bytes nL own) (hM : pj_hM l ω C d) (hR1 : d + 11 ≤ R.frames) (hR2 : 64 * d + 704 ≤ R.locals) (hini : ini = true → meth.name = "<init>") (hE : pj_end ω p l e R s m args below meth c bytes QW rt rk Q) (hCn : ∀ x as σ K, tm x = none → C x as σ K → False)
    {i : Instr} {len nx x y z : Nat} {w : Int32} {v : Int64} {sw : List (Int32 × Nat)} (hd : decode bytes pc = .ok (i, len)) (hok : pj_okE own ini rk pc (i, len, nx, (x, y, z), w, v, sw) = true)
    (h : pj_x C ta rt Q (pj_W ω p l e R s m args below meth c nL QW) i nx x y z w v sw L st Z I J bc bs) : pj_W ω p l e R s m args below meth c nL QW pc L st Z I J bc bs := by
  unfold pj_okE at hok
  rw [Bool.and_eq_true, Bool.and_eq_true] at hok
  obtain ⟨⟨h1, h2⟩, h3⟩ := hok
  have hn : nx = pc + len := Nat.eq_of_beq_eq_true h1
  subst hn
  have hx := X.1
  have hb := X.2.1
  have h2 : (pj_isS i || Nat.beq len (pj_len i)) = true := h2
  have hlen : pj_isS i = false → len = pj_len i := fun q => pj_len_of h2 q
  clear h2
  clear h1
  cases i
  case aload k =>
    obtain rfl : len = 2 := hlen rfl
    obtain ⟨a, ha, h⟩ := pj_gR_e h
    exact fun H locs ls cells slots g1 g2 g3 g4 => lv_aload hx hb hd (pj_lr_get g4 ha) (h H locs ls cells slots g1 g2 g3 g4)
  case aload_n k =>
    obtain rfl : len = 1 := hlen rfl
    obtain ⟨a, ha, h⟩ := pj_gR_e h
    exact fun H locs ls cells slots g1 g2 g3 g4 => lv_aload_n hx hb hd rfl (pj_lr_get g4 ha) (h H locs ls cells slots g1 g2 g3 g4)
  case iload k =>
    obtain rfl : len = 2 := hlen rfl
    obtain ⟨a, ha, h⟩ := pj_gI_e h
    exact fun H locs ls cells slots g1 g2 g3 g4 => lv_iload hx hb hd (pj_lr_get g4 ha) (h H locs ls cells slots g1 g2 g3 g4)
  case iload_n k =>
    obtain rfl : len = 1 := hlen rfl
    obtain ⟨a, ha, h⟩ := pj_gI_e h
    exact fun H locs ls cells slots g1 g2 g3 g4 => lv_iload_n hx hb hd rfl (pj_lr_get g4 ha) (h H locs ls cells slots g1 g2 g3 g4)
  case lload k =>
    obtain rfl : len = 2 := hlen rfl
    obtain ⟨a, ha, h⟩ := pj_gL_e h
    exact fun H locs ls cells slots g1 g2 g3 g4 => lv_lload hx hb hd (pj_lr_get g4 ha) (h H locs ls cells slots g1 g2 g3 g4)
  case lload_n k =>
    obtain rfl : len = 1 := hlen rfl
    obtain ⟨a, ha, h⟩ := pj_gL_e h
    exact fun H locs ls cells slots g1 g2 g3 g4 => lv_lload_n hx hb hd rfl (pj_lr_get g4 ha) (h H locs ls cells slots g1 g2 g3 g4)
  case astore k =>
    obtain rfl : len = 2 := hlen rfl
    obtain ⟨a, st, rfl, h⟩ := pj_pR_e h
    obtain ⟨hk, h⟩ := pj_c_e h
    exact fun H locs ls cells slots g1 g2 g3 g4 => pj_st1 X (Nat.blt_eq.mp hk) h g1 g2 g3 g4 (fun lv lv' a1 a2 a3 a4 => lv_astore hx hb hd a1 a2 a3 a4)
  case astore_n k =>
    obtain rfl : len = 1 := hlen rfl
    obtain ⟨a, st, rfl, h⟩ := pj_pR_e h
    obtain ⟨hk, h⟩ := pj_c_e h
    exact fun H locs ls cells slots g1 g2 g3 g4 => pj_st1 X (Nat.blt_eq.mp hk) h g1 g2 g3 g4 (fun lv lv' a1 a2 a3 a4 => lv_astore_n hx hb hd rfl a1 a2 a3 a4)
  case istore k =>
    obtain rfl : len = 2 := hlen rfl
    obtain ⟨a, st, rfl, h⟩ := pj_pI_e h
    obtain ⟨hk, h⟩ := pj_c_e h
    exact fun H locs ls cells slots g1 g2 g3 g4 => pj_st1 X (Nat.blt_eq.mp hk) h g1 g2 g3 g4 (fun lv lv' a1 a2 a3 a4 => lv_istore hx hb hd a1 a2 a3 a4)
  case istore_n k =>
    obtain rfl : len = 1 := hlen rfl
    obtain ⟨a, st, rfl, h⟩ := pj_pI_e h
    obtain ⟨hk, h⟩ := pj_c_e h
    exact fun H locs ls cells slots g1 g2 g3 g4 => pj_st1 X (Nat.blt_eq.mp hk) h g1 g2 g3 g4 (fun lv lv' a1 a2 a3 a4 => lv_istore_n hx hb hd rfl a1 a2 a3 a4)
  case lstore k =>
    obtain rfl : len = 2 := hlen rfl
    obtain ⟨a, st, rfl, h⟩ := pj_pL_e h
    obtain ⟨hk, h⟩ := pj_c_e h
    exact fun H locs ls cells slots g1 g2 g3 g4 => pj_st2 X (Nat.blt_eq.mp hk) h g1 g2 g3 g4 (fun lv lv' a1 a2 a3 a4 => lv_lstore hx hb hd a1 a2 a3 a4)
  case lstore_n k =>
    obtain rfl : len = 1 := hlen rfl
    obtain ⟨a, st, rfl, h⟩ := pj_pL_e h
    obtain ⟨hk, h⟩ := pj_c_e h
    exact fun H locs ls cells slots g1 g2 g3 g4 => pj_st2 X (Nat.blt_eq.mp hk) h g1 g2 g3 g4 (fun lv lv' a1 a2 a3 a4 => lv_lstore_n hx hb hd rfl a1 a2 a3 a4)
  case iinc k n =>
    obtain rfl : len = 3 := hlen rfl
    obtain ⟨a, ha, h⟩ := pj_gI_e h
    exact pj_iinc X hd (of_decide_eq_true h3) ha h
  case iconst n =>
    obtain rfl : len = 1 := hlen rfl
    exact fun H locs ls cells slots g1 g2 g3 g4 => lv_iconst hx hb hd (of_decide_eq_true h3) (h H locs ls cells slots g1 g2 g3 g4)
  case bipush n =>
    obtain rfl : len = 2 := hlen rfl
    exact fun H locs ls cells slots g1 g2 g3 g4 => lv_bipush hx hb hd (of_decide_eq_true h3) (h H locs ls cells slots g1 g2 g3 g4)
  case sipush n =>
    obtain rfl : len = 3 := hlen rfl
    exact fun H locs ls cells slots g1 g2 g3 g4 => lv_sipush hx hb hd (of_decide_eq_true h3) (h H locs ls cells slots g1 g2 g3 g4)
  case lconst n =>
    obtain rfl : len = 1 := hlen rfl
    exact fun H locs ls cells slots g1 g2 g3 g4 => lv_lconst hx hb hd (of_decide_eq_true h3) (h H locs ls cells slots g1 g2 g3 g4)
  case ldc k =>
    obtain rfl : len = 2 := hlen rfl
    rcases z with _ | z
    · exact fun H locs ls cells slots g1 g2 g3 g4 => lv_ldc hx hb X.2.2.2.1 (X.2.2.2.2.1 _ (pj_conI h3)) hd (h H locs ls cells slots g1 g2 g3 g4)
    · have h3 : (Nat.beq own 6 && Nat.beq k 38) = true := h3
      rw [Bool.and_eq_true] at h3
      obtain rfl := Nat.eq_of_beq_eq_true h3.1
      obtain rfl := Nat.eq_of_beq_eq_true h3.2
      exact fun H locs ls cells slots g1 g2 g3 g4 => pj_ldcS X hd (h H locs ls cells slots g1 g2 g3 g4)
  case ldc_w k =>
    obtain rfl : len = 3 := hlen rfl
    exact fun H locs ls cells slots g1 g2 g3 g4 => lv_ldcw hx hb X.2.2.2.1 (X.2.2.2.2.1 _ (pj_conI h3)) hd (h H locs ls cells slots g1 g2 g3 g4)
  case ldc2_w k =>
    obtain rfl : len = 3 := hlen rfl
    exact fun H locs ls cells slots g1 g2 g3 g4 => lv_ldc2 hx hb X.2.2.2.1 (X.2.2.2.2.1 _ (pj_conL h3)) hd (h H locs ls cells slots g1 g2 g3 g4)
  case iadd =>
    obtain rfl : len = 1 := hlen rfl
    obtain ⟨b, st, rfl, h⟩ := pj_pI_e h
    obtain ⟨a, st, rfl, h⟩ := pj_pI_e h
    exact fun H locs ls cells slots g1 g2 g3 g4 => lv_iadd hx hb hd (h H locs ls cells slots g1 g2 g3 g4)
  case isub =>
    obtain rfl : len = 1 := hlen rfl
    obtain ⟨b, st, rfl, h⟩ := pj_pI_e h
    obtain ⟨a, st, rfl, h⟩ := pj_pI_e h
    exact fun H locs ls cells slots g1 g2 g3 g4 => lv_isub hx hb hd (h H locs ls cells slots g1 g2 g3 g4)
  case imul =>
    obtain rfl : len = 1 := hlen rfl
    obtain ⟨b, st, rfl, h⟩ := pj_pI_e h
    obtain ⟨a, st, rfl, h⟩ := pj_pI_e h
    exact fun H locs ls cells slots g1 g2 g3 g4 => lv_imul hx hb hd (h H locs ls cells slots g1 g2 g3 g4)
  case iand =>
    obtain rfl : len = 1 := hlen rfl
    obtain ⟨b, st, rfl, h⟩ := pj_pI_e h
    obtain ⟨a, st, rfl, h⟩ := pj_pI_e h
    exact fun H locs ls cells slots g1 g2 g3 g4 => lv_iand hx hb hd (h H locs ls cells slots g1 g2 g3 g4)
  case ior =>
    obtain rfl : len = 1 := hlen rfl
    obtain ⟨b, st, rfl, h⟩ := pj_pI_e h
    obtain ⟨a, st, rfl, h⟩ := pj_pI_e h
    exact fun H locs ls cells slots g1 g2 g3 g4 => lv_ior hx hb hd (h H locs ls cells slots g1 g2 g3 g4)
  case ixor =>
    obtain rfl : len = 1 := hlen rfl
    obtain ⟨b, st, rfl, h⟩ := pj_pI_e h
    obtain ⟨a, st, rfl, h⟩ := pj_pI_e h
    exact fun H locs ls cells slots g1 g2 g3 g4 => lv_ixor hx hb hd (h H locs ls cells slots g1 g2 g3 g4)
  case ishl =>
    obtain rfl : len = 1 := hlen rfl
    obtain ⟨b, st, rfl, h⟩ := pj_pI_e h
    obtain ⟨a, st, rfl, h⟩ := pj_pI_e h
    exact fun H locs ls cells slots g1 g2 g3 g4 => lv_ishl hx hb hd (h H locs ls cells slots g1 g2 g3 g4)
  case ishr =>
    obtain rfl : len = 1 := hlen rfl
    obtain ⟨b, st, rfl, h⟩ := pj_pI_e h
    obtain ⟨a, st, rfl, h⟩ := pj_pI_e h
    exact fun H locs ls cells slots g1 g2 g3 g4 => lv_ishr hx hb hd (h H locs ls cells slots g1 g2 g3 g4)
  case iushr =>
    obtain rfl : len = 1 := hlen rfl
    obtain ⟨b, st, rfl, h⟩ := pj_pI_e h
    obtain ⟨a, st, rfl, h⟩ := pj_pI_e h
    exact fun H locs ls cells slots g1 g2 g3 g4 => lv_iushr hx hb hd rfl (h H locs ls cells slots g1 g2 g3 g4)
  case idiv =>
    obtain rfl : len = 1 := hlen rfl
    obtain ⟨b, st, rfl, h⟩ := pj_pI_e h
    obtain ⟨a, st, rfl, h⟩ := pj_pI_e h
    exact fun H locs ls cells slots g1 g2 g3 g4 => lv_idiv hx hb hd h.1 (h.2 H locs ls cells slots g1 g2 g3 g4)
  case irem =>
    obtain rfl : len = 1 := hlen rfl
    obtain ⟨b, st, rfl, h⟩ := pj_pI_e h
    obtain ⟨a, st, rfl, h⟩ := pj_pI_e h
    exact fun H locs ls cells slots g1 g2 g3 g4 => lv_irem hx hb hd h.1 (h.2 H locs ls cells slots g1 g2 g3 g4)
  case ladd =>
    obtain rfl : len = 1 := hlen rfl
    obtain ⟨b, st, rfl, h⟩ := pj_pL_e h
    obtain ⟨a, st, rfl, h⟩ := pj_pL_e h
    exact fun H locs ls cells slots g1 g2 g3 g4 => lv_ladd hx hb hd (h H locs ls cells slots g1 g2 g3 g4)
  case lsub =>
    obtain rfl : len = 1 := hlen rfl
    obtain ⟨b, st, rfl, h⟩ := pj_pL_e h
    obtain ⟨a, st, rfl, h⟩ := pj_pL_e h
    exact fun H locs ls cells slots g1 g2 g3 g4 => lv_lsub hx hb hd (h H locs ls cells slots g1 g2 g3 g4)
  case lmul =>
    obtain rfl : len = 1 := hlen rfl
    obtain ⟨b, st, rfl, h⟩ := pj_pL_e h
    obtain ⟨a, st, rfl, h⟩ := pj_pL_e h
    exact fun H locs ls cells slots g1 g2 g3 g4 => lv_lmul hx hb hd (h H locs ls cells slots g1 g2 g3 g4)
  case land =>
    obtain rfl : len = 1 := hlen rfl
    obtain ⟨b, st, rfl, h⟩ := pj_pL_e h
    obtain ⟨a, st, rfl, h⟩ := pj_pL_e h
    exact fun H locs ls cells slots g1 g2 g3 g4 => lv_land hx hb hd (h H locs ls cells slots g1 g2 g3 g4)
  case lor =>
    obtain rfl : len = 1 := hlen rfl
    obtain ⟨b, st, rfl, h⟩ := pj_pL_e h
    obtain ⟨a, st, rfl, h⟩ := pj_pL_e h
    exact fun H locs ls cells slots g1 g2 g3 g4 => lv_lor hx hb hd (h H locs ls cells slots g1 g2 g3 g4)
  case ldiv =>
    obtain rfl : len = 1 := hlen rfl
    obtain ⟨b, st, rfl, h⟩ := pj_pL_e h
    obtain ⟨a, st, rfl, h⟩ := pj_pL_e h
    exact fun H locs ls cells slots g1 g2 g3 g4 => lv_ldiv hx hb hd h.1 (h.2 H locs ls cells slots g1 g2 g3 g4)
  case lrem =>
    obtain rfl : len = 1 := hlen rfl
    obtain ⟨b, st, rfl, h⟩ := pj_pL_e h
    obtain ⟨a, st, rfl, h⟩ := pj_pL_e h
    exact fun H locs ls cells slots g1 g2 g3 g4 => lv_lrem hx hb hd h.1 (h.2 H locs ls cells slots g1 g2 g3 g4)
  case lshl =>
    obtain rfl : len = 1 := hlen rfl
    obtain ⟨b, st, rfl, h⟩ := pj_pI_e h
    obtain ⟨a, st, rfl, h⟩ := pj_pL_e h
    exact fun H locs ls cells slots g1 g2 g3 g4 => lv_lshl hx hb hd rfl (h H locs ls cells slots g1 g2 g3 g4)
  case lshr =>
    obtain rfl : len = 1 := hlen rfl
    obtain ⟨b, st, rfl, h⟩ := pj_pI_e h
    obtain ⟨a, st, rfl, h⟩ := pj_pL_e h
    exact fun H locs ls cells slots g1 g2 g3 g4 => lv_lshr hx hb hd rfl (h H locs ls cells slots g1 g2 g3 g4)
  case lcmp =>
    obtain rfl : len = 1 := hlen rfl
    obtain ⟨b, st, rfl, h⟩ := pj_pL_e h
    obtain ⟨a, st, rfl, h⟩ := pj_pL_e h
    exact fun H locs ls cells slots g1 g2 g3 g4 => W.lcmp hx hb hd (h H locs ls cells slots g1 g2 g3 g4)
  case i2l =>
    obtain rfl : len = 1 := hlen rfl
    obtain ⟨b, st, rfl, h⟩ := pj_pI_e h
    exact fun H locs ls cells slots g1 g2 g3 g4 => lv_i2l hx hb hd rfl (h H locs ls cells slots g1 g2 g3 g4)
  case l2i =>
    obtain rfl : len = 1 := hlen rfl
    obtain ⟨b, st, rfl, h⟩ := pj_pL_e h
    exact fun H locs ls cells slots g1 g2 g3 g4 => lv_l2i hx hb hd rfl (h H locs ls cells slots g1 g2 g3 g4)
  case dup =>
    obtain rfl : len = 1 := hlen rfl
    obtain ⟨b, st, rfl, hc, h⟩ := pj_pV_e (k := fun a st => pj_W ω p l e R s m args below meth c nL QW (pc + 1) L (a :: a :: st) Z I J bc bs) h
    exact fun H locs ls cells slots g1 g2 g3 g4 => lv_dup hx hb hd (by rw [pj_cv_cat]; exact hc) (h H locs ls cells slots g1 g2 g3 g4)
  case dup2 =>
    obtain rfl : len = 1 := hlen rfl
    obtain ⟨a, st, rfl, hc, h⟩ := pj_pV_e (k := fun a st => pj_pV st fun b st => pj_W ω p l e R s m args below meth c nL QW (pc + 1) L (a :: b :: a :: b :: st) Z I J bc bs) h
    obtain ⟨b, st, rfl, hc2, h⟩ := pj_pV_e (k := fun b st => pj_W ω p l e R s m args below meth c nL QW (pc + 1) L (a :: b :: a :: b :: st) Z I J bc bs) h
    exact fun H locs ls cells slots g1 g2 g3 g4 => lv_dup2_11 hx hb hd (by rw [pj_cv_cat]; exact hc) (by rw [pj_cv_cat]; exact hc2) (h H locs ls cells slots g1 g2 g3 g4)
  case pop =>
    obtain rfl : len = 1 := hlen rfl
    obtain ⟨b, st, rfl, hc, h⟩ := pj_pV_e (k := fun a st => pj_W ω p l e R s m args below meth c nL QW (pc + 1) L st Z I J bc bs) h
    exact fun H locs ls cells slots g1 g2 g3 g4 => lv_pop hx hb hd (by rw [pj_cv_cat]; exact hc) (h H locs ls cells slots g1 g2 g3 g4)
  case if_icmp cd o =>
    obtain rfl : len = 3 := hlen rfl
    have ht : (pc : Int) + o = (x : Int) := of_decide_eq_true h3
    obtain ⟨b, st, rfl, h⟩ := pj_pI_e h
    obtain ⟨a, st, rfl, h⟩ := pj_pI_e h
    intro H locs ls cells slots g1 g2 g3 g4
    cases cd
    case eq => exact lv_icmp_eq hx hb hd ht (fun q => h.1 q H locs ls cells slots g1 g2 g3 g4) (fun q => h.2 q H locs ls cells slots g1 g2 g3 g4)
    case ne => exact lv_icmp_ne hx hb hd ht (fun q => h.1 q H locs ls cells slots g1 g2 g3 g4) (fun q => h.2 q H locs ls cells slots g1 g2 g3 g4)
    case lt => exact lv_icmp_lt hx hb hd ht (fun q => h.1 q H locs ls cells slots g1 g2 g3 g4) (fun q => h.2 q H locs ls cells slots g1 g2 g3 g4)
    case ge => exact lv_icmp_ge hx hb hd ht (fun q => h.1 q H locs ls cells slots g1 g2 g3 g4) (fun q => h.2 q H locs ls cells slots g1 g2 g3 g4)
    case gt => exact lv_icmp_gt hx hb hd ht (fun q => h.1 q H locs ls cells slots g1 g2 g3 g4) (fun q => h.2 q H locs ls cells slots g1 g2 g3 g4)
    case le => exact lv_icmp_le hx hb hd ht (fun q => h.1 q H locs ls cells slots g1 g2 g3 g4) (fun q => h.2 q H locs ls cells slots g1 g2 g3 g4)
  case ifCond cd o =>
    obtain rfl : len = 3 := hlen rfl
    have ht : (pc : Int) + o = (x : Int) := of_decide_eq_true h3
    obtain ⟨a, st, rfl, h⟩ := pj_pI_e h
    intro H locs ls cells slots g1 g2 g3 g4
    cases cd
    case eq => exact lv_if_eq hx hb hd ht (fun q => h.1 q H locs ls cells slots g1 g2 g3 g4) (fun q => h.2 q H locs ls cells slots g1 g2 g3 g4)
    case ne => exact lv_if_ne hx hb hd ht (fun q => h.1 q H locs ls cells slots g1 g2 g3 g4) (fun q => h.2 q H locs ls cells slots g1 g2 g3 g4)
    case lt => exact lv_if_lt hx hb hd ht (fun q => h.1 q H locs ls cells slots g1 g2 g3 g4) (fun q => h.2 q H locs ls cells slots g1 g2 g3 g4)
    case ge => exact lv_if_ge hx hb hd ht (fun q => h.1 q H locs ls cells slots g1 g2 g3 g4) (fun q => h.2 q H locs ls cells slots g1 g2 g3 g4)
    case gt => exact lv_if_gt hx hb hd ht (fun q => h.1 q H locs ls cells slots g1 g2 g3 g4) (fun q => h.2 q H locs ls cells slots g1 g2 g3 g4)
    case le => exact lv_if_le hx hb hd ht (fun q => h.1 q H locs ls cells slots g1 g2 g3 g4) (fun q => h.2 q H locs ls cells slots g1 g2 g3 g4)
  case goto o =>
    obtain rfl : len = 3 := hlen rfl
    exact fun H locs ls cells slots g1 g2 g3 g4 => lv_goto hx hb hd (of_decide_eq_true h3) (h H locs ls cells slots g1 g2 g3 g4)
  case tableswitch D lo hi os =>
    obtain ⟨a, st, rfl, h⟩ := pj_pI_e h
    simp only [Bool.and_eq_true, decide_eq_true_eq, List.all_eq_true] at h3
    obtain ⟨⟨⟨⟨⟨e1, e2⟩, e3⟩, e4⟩, e5⟩, e6⟩ := h3
    try dsimp only at e1 e2
    rw [e2] at h
    have hsz : os.toList.length = os.size := Array.length_toList
    obtain ⟨t1, t2⟩ := pj_sw_tab (pc := pc) os.toList lo e4 (by rw [hsz]; omega) h
    intro H locs ls cells slots g1 g2 g3 g4
    by_cases hin : a.toInt < lo ∨ hi < a.toInt
    · exact lv_tableOut hx hb hd hin e1 (t1 (by rw [hsz]; omega) H locs ls cells slots g1 g2 g3 g4)
    · have hlt : (a.toInt - lo).toNat < os.size := by omega
      have hg : os[(a.toInt - lo).toNat]? = some (os[(a.toInt - lo).toNat]'hlt) := Array.getElem?_eq_getElem hlt
      have hg2 : os.toList[(a.toInt - lo).toNat]? = some (os[(a.toInt - lo).toNat]'hlt) := by rw [Array.getElem?_toList]; exact hg
      have hpos := e6 _ (List.mem_of_getElem? hg2)
      exact lv_tableIn hx hb hd (fun q => hin (Or.inl q)) (fun q => hin (Or.inr q)) hg (by omega) (t2 _ (fun q => hin (Or.inl q)) hg2 H locs ls cells slots g1 g2 g3 g4)
  case lookupswitch D ps =>
    obtain ⟨a, st, rfl, h⟩ := pj_pI_e h
    simp only [Bool.and_eq_true, decide_eq_true_eq] at h3
    obtain ⟨⟨⟨e1, e2⟩, e3⟩, e4⟩ := h3
    try dsimp only at e1 e2
    rw [e2] at h
    obtain ⟨t, q1, q2⟩ := pj_sw_lok (pc := pc) ps.toList D (fun o ho => by
      have := List.all_eq_true.mp e4 o ho
      simp only [Bool.and_eq_true, decide_eq_true_eq] at this
      exact ⟨this.1.2, this.2, this.1.1⟩) e1 h
    exact fun H locs ls cells slots g1 g2 g3 g4 => lv_lookup hx hb hd e3 rfl q1 (q2 H locs ls cells slots g1 g2 g3 g4)
  case getfield k =>
    obtain rfl : len = 3 := hlen rfl
    obtain ⟨a, st, rfl, h⟩ := pj_pR_e h
    obtain ⟨ha, h⟩ := pj_c_e h
    have ha := Nat.eq_of_beq_eq_true ha
    intro H locs ls cells slots g1 g2 g3 g4
    refine pj_get X hd h3 ha g1 (fun hft => ?_)
    unfold pj_fv
    rcases z with _ | _ | _ | z
    · rw [hft]; exact h H locs ls cells slots g1 g2 g3 g4
    · rw [hft]; exact h H locs ls cells slots g1 g2 g3 g4
    · obtain ⟨hs, h⟩ := pj_c_e h
      rw [hft]
      obtain ⟨r, hr⟩ := Option.isSome_iff_exists.mp hs
      have h := h H locs ls cells slots g1 g2 g3 g4
      rw [hr] at h
      show W p l e R s m args below meth c H locs cells slots QW (F0 m (pc + 3) ls (va_rf (Option.map (pj_ad ω) (Z.2.2.2 a y)) :: _))
      rw [hr]
      exact h
    · have h : pj_W ω p l e R s m args below meth c nL QW (pc + 3) L (.int (I a y) :: st) Z I J bc bs := h
      have h := h H locs ls cells slots g1 g2 g3 g4
      rw [hft]
      exact h
  case putfield k =>
    obtain rfl : len = 3 := hlen rfl
    rcases z with _ | _ | _ | z
    · obtain ⟨b, st, rfl, h⟩ := pj_pI_e h
      obtain ⟨a, st, rfl, h⟩ := pj_pR_e h
      obtain ⟨ha, h⟩ := pj_c_e h
      have ha := Nat.eq_of_beq_eq_true ha
      intro H locs ls cells slots g1 g2 g3 g4
      by_cases h0 : a = 0
      · subst h0
        exact absurd ha (by rw [g1.1.2.1]; intro q; have h3' : (cpF.any fun q => Nat.beq q.1 own && Nat.beq q.2.1 k && Nat.beq q.2.2.1 x && Nat.beq q.2.2.2.1 y && Nat.beq q.2.2.2.2.1 0) = true := (by obtain ⟨q, hq, h⟩ := List.any_eq_true.mp h3; rw [Bool.and_eq_true] at h; exact List.any_eq_true.mpr ⟨q, hq, h.1⟩); obtain ⟨r, hr, -⟩ := pj_fld h3'; have := (pj_cls hr).1; omega)
      refine pj_put X hini hd h3 ha g1 (v := .int b) (pj_put1 h3 (pj_ftN b)) (Z' := Z) (I' := pj_u I a y b) (J' := J) (fun hft j => ?_) ⟨rfl, rfl, rfl⟩ (fun j hj => pj_we_eq rfl rfl rfl (pj_u_fun _ _ _ _ hj) rfl) (pj_u_fun _ _ _ _ (fun q => h0 q.symm)) (fun H1 locs1 hw => h H1 locs1 ls cells slots hw g2 g3 g4)
      by_cases hj : j = y
      · subst hj; rw [if_pos rfl]; unfold pj_fv; rw [hft, pj_u_same]; rfl
      · rw [if_neg hj]; unfold pj_fv; rw [pj_u_col _ _ _ _ _ hj]
    · obtain ⟨b, st, rfl, h⟩ := pj_pL_e h
      obtain ⟨a, st, rfl, h⟩ := pj_pR_e h
      obtain ⟨ha, h⟩ := pj_c_e h
      have ha := Nat.eq_of_beq_eq_true ha
      intro H locs ls cells slots g1 g2 g3 g4
      refine pj_put X hini hd h3 ha g1 (v := .long b) (pj_put1 h3 (pj_ftL b)) (Z' := Z) (I' := I) (J' := pj_u J a y b) (fun hft j => ?_) ⟨rfl, rfl, rfl⟩ (fun j hj => pj_we_eq rfl rfl rfl rfl (pj_u_fun _ _ _ _ hj)) rfl (fun H1 locs1 hw => h H1 locs1 ls cells slots hw g2 g3 g4)
      by_cases hj : j = y
      · subst hj; rw [if_pos rfl]; unfold pj_fv; rw [hft, pj_u_same]; rfl
      · rw [if_neg hj]; unfold pj_fv; rw [pj_u_col _ _ _ _ _ hj]
    · obtain ⟨b, st, rfl, h⟩ := pj_pR_e h
      obtain ⟨a, st, rfl, h⟩ := pj_pR_e h
      obtain ⟨ha, h⟩ := pj_c_e h
      have ha := Nat.eq_of_beq_eq_true ha
      intro H locs ls cells slots g1 g2 g3 g4
      have h3' : (cpF.any fun q => Nat.beq q.1 own && Nat.beq q.2.1 k && Nat.beq q.2.2.1 x && Nat.beq q.2.2.2.1 y && Nat.beq q.2.2.2.2.1 2) = true := by
        obtain ⟨q, hq, h⟩ := List.any_eq_true.mp h3
        rw [Bool.and_eq_true] at h
        exact List.any_eq_true.mpr ⟨q, hq, h.1⟩
      obtain ⟨r, hr, hy, -, hft0, -⟩ := pj_fld h3'
      obtain ⟨hx13, -, -, -, hnf, -⟩ := pj_cls hr
      have hyk := List.all_eq_true.mp pj_okY_all x (List.mem_range.mpr hx13)
      unfold pj_okY at hyk
      have hyk := List.all_eq_true.mp hyk y (List.mem_range.mpr (by omega))
      have hty : ∀ ty, pj_ftc ty = 2 → (match ty with | .int => true | .long => true | .boolean => true | .object _ => true | .array _ => true | _ => false) = true → narrow ty (.ref (pj_ad ω b)) = .ref (pj_ad ω b) ∧ fits ty (.ref (pj_ad ω b)) = true := by
        intro ty q1 q2
        cases ty <;> first | exact ⟨rfl, rfl⟩ | exact absurd q1 (by decide) | exact absurd q2 (by decide)
      refine pj_putR X hini hd h3 ha g1 (hty (pj_ty x y) hft0 hyk) (fun H1 locs1 hw => h H1 locs1 ls cells slots hw g2 g3 g4)
    · obtain ⟨b, st1, rfl, k1⟩ := pj_pI_e h
      clear h
      obtain ⟨a, st, rfl, k2⟩ := pj_pR_e k1
      clear k1
      obtain ⟨ha0, k3⟩ := pj_c_e k2
      clear k2
      have ha := Nat.eq_of_beq_eq_true ha0
      clear ha0
      intro H locs ls cells slots g1 g2 g3 g4
      have h3' : (cpF.any fun q => Nat.beq q.1 own && Nat.beq q.2.1 k && Nat.beq q.2.2.1 x && Nat.beq q.2.2.2.1 y && Nat.beq q.2.2.2.2.1 (z + 1 + 1 + 1)) = true := by
        obtain ⟨q, hq, h⟩ := List.any_eq_true.mp h3
        rw [Bool.and_eq_true] at h
        exact List.any_eq_true.mpr ⟨q, hq, h.1⟩
      obtain ⟨r, hr, hy, -, hft0, -⟩ := pj_fld h3'
      have hz : z = 0 := by
        have : ∀ ty, pj_ftc ty = z + 1 + 1 + 1 → z = 0 := by
          intro ty q
          cases ty <;> simp [pj_ftc] at q <;> omega
        exact this _ hft0
      subst hz
      by_cases h0 : a = 0
      · subst h0
        exact absurd ha (by rw [g1.1.2.1]; intro q; have := (pj_cls hr).1; omega)
      refine pj_put X hini hd h3 ha g1 (v := .int b) (pj_put1 h3 (pj_ftZ k3.1)) (Z' := Z) (I' := pj_u I a y b) (J' := J) (fun hft j => ?_) ⟨rfl, rfl, rfl⟩ (fun j hj => pj_we_eq rfl rfl rfl (pj_u_fun _ _ _ _ hj) rfl) (pj_u_fun _ _ _ _ (fun q => h0 q.symm)) (fun H1 locs1 hw => k3.2 H1 locs1 ls cells slots hw g2 g3 g4)
      by_cases hj : j = y
      · subst hj; rw [if_pos rfl]; unfold pj_fv; rw [hft, pj_u_same]; rfl
      · rw [if_neg hj]; unfold pj_fv; rw [pj_u_col _ _ _ _ _ hj]
  case iaload =>
    obtain rfl : len = 1 := hlen rfl
    obtain ⟨b, st, rfl, h⟩ := pj_pI_e h
    obtain ⟨a, st, rfl, h⟩ := pj_pR_e h
    obtain ⟨ha, h⟩ := pj_c_e h
    rw [Bool.or_eq_true] at ha
    exact fun H locs ls cells slots g1 g2 g3 g4 => pj_ial X hd (ha.imp Nat.eq_of_beq_eq_true Nat.eq_of_beq_eq_true) h.1 g1 (h.2 H locs ls cells slots g1 g2 g3 g4)
  case laload =>
    obtain rfl : len = 1 := hlen rfl
    obtain ⟨b, st, rfl, h⟩ := pj_pI_e h
    obtain ⟨a, st, rfl, h⟩ := pj_pR_e h
    obtain ⟨ha, h⟩ := pj_c_e h
    exact fun H locs ls cells slots g1 g2 g3 g4 => pj_lal X hd (Nat.eq_of_beq_eq_true ha) h.1 g1 (h.2 H locs ls cells slots g1 g2 g3 g4)
  case baload =>
    obtain rfl : len = 1 := hlen rfl
    obtain ⟨b, st, rfl, h⟩ := pj_pI_e h
    obtain ⟨a, st, rfl, h⟩ := pj_pR_e h
    obtain ⟨ha, h⟩ := pj_c_e h
    exact fun H locs ls cells slots g1 g2 g3 g4 => pj_bal X hd (Nat.eq_of_beq_eq_true ha) h.1 g1 (h.2 H locs ls cells slots g1 g2 g3 g4)
  case aaload =>
    obtain rfl : len = 1 := hlen rfl
    obtain ⟨b, st, rfl, h⟩ := pj_pI_e h
    obtain ⟨a, st, rfl, h⟩ := pj_pR_e h
    obtain ⟨ha, h⟩ := pj_c_e h
    rw [Bool.or_eq_true] at ha
    obtain ⟨h1, h⟩ := h
    obtain ⟨hs, h⟩ := pj_c_e h
    intro H locs ls cells slots g1 g2 g3 g4
    refine pj_aal X hd (ha.imp Nat.eq_of_beq_eq_true Nat.eq_of_beq_eq_true) h1 g1 ?_
    obtain ⟨r, hr⟩ := Option.isSome_iff_exists.mp hs
    have h := h H locs ls cells slots g1 g2 g3 g4
    rw [hr] at h ⊢
    exact h
  case iastore =>
    obtain rfl : len = 1 := hlen rfl
    obtain ⟨q, st, rfl, h⟩ := pj_pI_e h
    obtain ⟨b, st, rfl, h⟩ := pj_pI_e h
    obtain ⟨a, st, rfl, h⟩ := pj_pR_e h
    obtain ⟨ha, h⟩ := pj_c_e h
    exact fun H locs ls cells slots g1 g2 g3 g4 => pj_ias X hd (Nat.eq_of_beq_eq_true ha) h.1 g1 (fun H1 locs1 hw => h.2 H1 locs1 ls cells slots hw g2 g3 g4)
  case lastore =>
    obtain rfl : len = 1 := hlen rfl
    obtain ⟨q, st, rfl, h⟩ := pj_pL_e h
    obtain ⟨b, st, rfl, h⟩ := pj_pI_e h
    obtain ⟨a, st, rfl, h⟩ := pj_pR_e h
    obtain ⟨ha, h⟩ := pj_c_e h
    exact fun H locs ls cells slots g1 g2 g3 g4 => pj_las X hd (Nat.eq_of_beq_eq_true ha) h.1 g1 (fun H1 locs1 hw => h.2 H1 locs1 ls cells slots hw g2 g3 g4)
  case bastore =>
    obtain rfl : len = 1 := hlen rfl
    obtain ⟨q, st, rfl, h⟩ := pj_pI_e h
    obtain ⟨b, st, rfl, h⟩ := pj_pI_e h
    obtain ⟨a, st, rfl, h⟩ := pj_pR_e h
    obtain ⟨ha, h⟩ := pj_c_e h
    exact fun H locs ls cells slots g1 g2 g3 g4 => pj_bas X hd (Nat.eq_of_beq_eq_true ha) h.1 g1 (fun H1 locs1 hw => h.2 H1 locs1 ls cells slots hw g2 g3 g4)
  case aastore =>
    obtain rfl : len = 1 := hlen rfl
    obtain ⟨q, st, rfl, h⟩ := pj_pR_e h
    obtain ⟨b, st, rfl, h⟩ := pj_pI_e h
    obtain ⟨a, st, rfl, h⟩ := pj_pR_e h
    obtain ⟨ha, h⟩ := pj_c_e h
    rw [Bool.and_eq_true] at ha
    exact fun H locs ls cells slots g1 g2 g3 g4 => pj_aas X hd (Nat.eq_of_beq_eq_true ha.1) (Nat.eq_of_beq_eq_true ha.2) h.1 g1 (fun H1 locs1 hw => h.2 H1 locs1 ls cells slots hw g2 g3 g4)
  case arraylength =>
    obtain rfl : len = 1 := hlen rfl
    obtain ⟨a, st, rfl, h⟩ := pj_pR_e h
    obtain ⟨ha, h⟩ := pj_c_e h
    rw [Bool.and_eq_true] at ha
    exact fun H locs ls cells slots g1 g2 g3 g4 => pj_alen X hd (Nat.le_of_ble_eq_true ha.1) (Nat.le_of_ble_eq_true ha.2) g1 (h H locs ls cells slots g1 g2 g3 g4)
  case newarray at' =>
    obtain rfl : len = 2 := hlen rfl
    obtain ⟨n, st, rfl, h⟩ := pj_pI_e h
    obtain ⟨hb2, h⟩ := pj_c_e h
    simp only [Bool.and_eq_true, Bool.not_eq_true', decide_eq_false_iff_not] at hb2
    obtain ⟨⟨⟨b1, b2⟩, b3⟩, b4⟩ := hb2
    have b1 := Nat.le_of_ble_eq_true b1
    have b2 := Nat.le_of_ble_eq_true b2
    have b3 := Nat.le_of_ble_eq_true b3
    have hat : (at' = .int ∧ x = 13) ∨ (at' = .long ∧ x = 14) ∨ (at' = .boolean ∧ x = 15) := by
      cases at' <;> first | exact Or.inl ⟨rfl, Nat.eq_of_beq_eq_true h3⟩ | exact Or.inr (Or.inl ⟨rfl, Nat.eq_of_beq_eq_true h3⟩) | exact Or.inr (Or.inr ⟨rfl, Nat.eq_of_beq_eq_true h3⟩) | cases h3
    exact fun H locs ls cells slots g1 g2 g3 g4 => pj_newa X hd hat g1 b4 b3 (by omega) (by omega) (fun H1 hw => h H1 locs ls (cells + 1) (slots + n.toNatClampNeg) hw (by omega) (by omega) g4)
  case anewarray k =>
    obtain rfl : len = 3 := hlen rfl
    obtain ⟨n, st, rfl, h⟩ := pj_pI_e h
    obtain ⟨hb2, h⟩ := pj_c_e h
    simp only [Bool.and_eq_true, Bool.not_eq_true', decide_eq_false_iff_not] at hb2
    obtain ⟨⟨⟨b1, b2⟩, b3⟩, b4⟩ := hb2
    have b1 := Nat.le_of_ble_eq_true b1
    have b2 := Nat.le_of_ble_eq_true b2
    have b3 := Nat.le_of_ble_eq_true b3
    have h3 : (Nat.beq own 1 && Nat.beq k 9) = true := h3
    rw [Bool.and_eq_true] at h3
    exact fun H locs ls cells slots g1 g2 g3 g4 => pj_newq X hd ⟨Nat.eq_of_beq_eq_true h3.1, Nat.eq_of_beq_eq_true h3.2⟩ g1 b4 b3 (by omega) (by omega) (fun H1 hw => h H1 locs ls (cells + 1) (slots + n.toNatClampNeg) hw (by omega) (by omega) g4)
  case multianewarray k dm =>
    obtain rfl : len = 4 := hlen rfl
    obtain ⟨q, st1, rfl, k1⟩ := pj_pI_e h
    clear h
    obtain ⟨n, st, rfl, k2⟩ := pj_pI_e k1
    clear k1
    obtain ⟨hb2, k3⟩ := pj_c_e k2
    clear k2
    simp only [Bool.and_eq_true, Bool.not_eq_true', decide_eq_false_iff_not] at hb2
    obtain ⟨⟨⟨⟨⟨b1', b2'⟩, b3'⟩, b4'⟩, b5⟩, b6⟩ := hb2
    have b1 := Nat.le_of_ble_eq_true b1'
    have b2 := Nat.le_of_ble_eq_true b2'
    have b3 := Nat.le_of_ble_eq_true b3'
    have b4 := Nat.le_of_ble_eq_true b4'
    have h4 : (((Nat.beq own 2 && Nat.beq k 9) || (Nat.beq own 9 && Nat.beq k 26)) && Nat.beq dm 2) = true := h3
    clear h3
    simp only [Bool.and_eq_true, Bool.or_eq_true] at h4
    obtain ⟨h5, hdm⟩ := h4
    have hdm := Nat.eq_of_beq_eq_true hdm
    subst hdm
    have ho : (own = 2 ∧ k = 9) ∨ (own = 9 ∧ k = 26) := h5.imp (fun q => ⟨Nat.eq_of_beq_eq_true q.1, Nat.eq_of_beq_eq_true q.2⟩) (fun q => ⟨Nat.eq_of_beq_eq_true q.1, Nat.eq_of_beq_eq_true q.2⟩)
    intro H locs ls cells slots g1 g2 g3 g4
    generalize hnq : n.toNatClampNeg * q.toNatClampNeg = NQ at b2 k3
    exact pj_mna X hd ho g1 b5 b6 b3 b4 (by omega) (by rw [hnq]; omega) (fun H1 hw => by rw [hnq]; exact k3 H1 locs ls _ _ hw (by omega) (by omega) g4)
  case new k =>
    obtain rfl : len = 3 := hlen rfl
    obtain ⟨hb2, h⟩ := pj_c_e h
    rw [Bool.and_eq_true] at hb2
    have b1 := Nat.le_of_ble_eq_true hb2.1
    have b2 := Nat.le_of_ble_eq_true hb2.2
    simp only [Bool.and_eq_true] at h3
    obtain ⟨⟨c1, c2⟩, c3⟩ := h3
    exact fun H locs ls cells slots g1 g2 g3 g4 => pj_newo X hd c1 (Nat.eq_of_beq_eq_true c2) (Nat.blt_eq.mp c3) g1 (by omega) (by omega) (fun H1 hw => h H1 locs ls (cells + 1) (slots + y) hw (by omega) (by omega) g4)
  case invokevirtual k =>
    obtain rfl : len = 3 := hlen rfl
    rw [Bool.and_eq_true] at h3
    have h : pj_iv C (pj_W ω p l e R s m args below meth c nL QW) (pc + 3) x y z L st Z I J bc bs := h
    unfold pj_iv at h
    split at h
    · obtain ⟨b, st1, rfl, k1⟩ := pj_pI_e h
      clear h
      obtain ⟨a, st, rfl, k2⟩ := pj_pR_e k1
      clear k1
      obtain ⟨ha, k3⟩ := pj_c_e k2
      clear k2
      rw [Bool.and_eq_true] at ha
      obtain ⟨ha1, ha2⟩ := ha
      have ha1 := Nat.eq_of_beq_eq_true ha1
      subst ha1
      obtain ⟨pl, ne, hk0⟩ := pj_lnk h3.1
      have hk : (Nat.beq own 6 && Nat.beq k 40) = true := hk0
      rw [Bool.and_eq_true] at hk
      obtain ⟨hk1, hk2⟩ := hk
      have hk1 := Nat.eq_of_beq_eq_true hk1
      have hk2 := Nat.eq_of_beq_eq_true hk2
      subst hk1
      subst hk2
      exact fun H locs ls cells slots g1 g2 g3 g4 => pj_chr X (by omega) (by omega) hd g1 k3.1 (pj_lrs g4) (by omega) (by omega) (by rw [pj_cv_sum]; exact Nat.le_of_ble_eq_true ha2) (k3.2 H locs ls cells slots g1 g2 g3 g4)
    · by_cases hbx : Nat.ble 1000 x = true
      · exact (pj_noC hCn (Nat.le_of_ble_eq_true hbx) h).elim
      · exact pj_stepC X hM hR1 hR2 (by cases q : Nat.ble 1000 x <;> first | rfl | exact absurd q hbx) h3.1 h3.2 (Or.inl ⟨rfl, rfl, hd⟩) (Or.inr ⟨by decide, rfl, rfl⟩) h
  case invokespecial k =>
    obtain rfl : len = 3 := hlen rfl
    rw [Bool.and_eq_true] at h3
    have h : pj_ip C ta (pj_W ω p l e R s m args below meth c nL QW) (pc + 3) x y z L st Z I J bc bs := h
    unfold pj_ip at h
    split at h
    · obtain ⟨a, st, rfl, h⟩ := pj_pR_e h
      obtain ⟨ha, h⟩ := pj_c_e h
      obtain ⟨pl, ne, hk⟩ := pj_lnk h3.1
      exact fun H locs ls cells slots g1 g2 g3 g4 => pj_obi X (pj_tb (of_decide_eq_true hk)) hd (pj_lrs g4) (by rw [pj_cv_sum]; exact Nat.le_of_ble_eq_true ha) (h H locs ls cells slots g1 g2 g3 g4)
    · by_cases hbx : Nat.ble 1000 x = true
      · exact (pj_noC hCn (Nat.le_of_ble_eq_true hbx) h).elim
      · exact pj_stepC X hM hR1 hR2 (by cases q : Nat.ble 1000 x <;> first | rfl | exact absurd q hbx) h3.1 h3.2 (Or.inr (Or.inr ⟨rfl, rfl, hd⟩)) (Or.inl ⟨rfl, rfl⟩) h
  case invokestatic k =>
    obtain rfl : len = 3 := hlen rfl
    rw [Bool.and_eq_true] at h3
    have h : pj_is C (pj_W ω p l e R s m args below meth c nL QW) (pc + 3) x y z L st Z I J bc bs := h
    unfold pj_is at h
    obtain ⟨pl, ne, hk⟩ := pj_lnk h3.1
    have hfr : 1 ≤ R.frames := by omega
    have hlo : 64 ≤ R.locals := by omega
    split at h
    · obtain ⟨b, st1, rfl, k1⟩ := pj_pI_e h
      clear h
      obtain ⟨a, st, rfl, k2⟩ := pj_pI_e k1
      clear k1
      obtain ⟨ha, h⟩ := pj_c_e k2
      clear k2
      have ha := Nat.le_of_ble_eq_true ha
      exact fun H locs ls cells slots g1 g2 g3 g4 => va_mmin hx hb (by rw [X.2.2.1, pj_lrs g4]) X.2.2.2.1 (X.2.2.2.2.1 _ (pj_tb (of_decide_eq_true hk))) (X.2.2.2.2.1 _ (pj_tb (k := 774) (by decide +kernel))) (X.2.2.2.2.1 _ (pj_tb (k := 20) (by decide +kernel))) (X.2.2.2.2.1 _ (pj_tb (k := 775) (by decide +kernel))) hfr (by rw [pj_cv_sum]; omega) (by omega) (by omega) hd (h H locs ls cells slots g1 g2 g3 g4)
    · obtain ⟨b, st1, rfl, k1⟩ := pj_pI_e h
      clear h
      obtain ⟨a, st, rfl, k2⟩ := pj_pI_e k1
      clear k1
      obtain ⟨ha, h⟩ := pj_c_e k2
      clear k2
      have ha := Nat.le_of_ble_eq_true ha
      exact fun H locs ls cells slots g1 g2 g3 g4 => va_mmax hx hb (by rw [X.2.2.1, pj_lrs g4]) X.2.2.2.1 (X.2.2.2.2.1 _ (pj_tb (of_decide_eq_true hk))) (X.2.2.2.2.1 _ (pj_tb (k := 858) (by decide +kernel))) (X.2.2.2.2.1 _ (pj_tb (k := 20) (by decide +kernel))) (X.2.2.2.2.1 _ (pj_tb (k := 859) (by decide +kernel))) hfr (by rw [pj_cv_sum]; omega) (by omega) (by omega) hd (h H locs ls cells slots g1 g2 g3 g4)
    · obtain ⟨a, st, rfl, h⟩ := pj_pI_e h
      obtain ⟨ha, h⟩ := pj_c_e h
      have ha := Nat.le_of_ble_eq_true ha
      exact fun H locs ls cells slots g1 g2 g3 g4 => va_mabs hx hb (by rw [X.2.2.1, pj_lrs g4]) X.2.2.2.1 (X.2.2.2.2.1 _ (pj_tb (of_decide_eq_true hk))) (X.2.2.2.2.1 _ (pj_tb (k := 814) (by decide +kernel))) (X.2.2.2.2.1 _ (pj_tb (k := 20) (by decide +kernel))) (X.2.2.2.2.1 _ (pj_tb (k := 815) (by decide +kernel))) hfr (by rw [pj_cv_sum]; omega) (by omega) (by omega) hd (h H locs ls cells slots g1 g2 g3 g4)
    · obtain ⟨n, st1, rfl, k1⟩ := pj_pI_e h
      clear h
      obtain ⟨dp, st2, rfl, k2⟩ := pj_pI_e k1
      clear k1
      obtain ⟨dd, st3, rfl, k3⟩ := pj_pR_e k2
      clear k2
      obtain ⟨sp, st4, rfl, k4⟩ := pj_pI_e k3
      clear k3
      obtain ⟨a, st, rfl, k5⟩ := pj_pR_e k4
      clear k4
      obtain ⟨ha, h⟩ := pj_c_e k5
      clear k5
      simp only [Bool.and_eq_true] at ha
      obtain ⟨⟨a1, a2⟩, a3⟩ := ha
      obtain ⟨⟨q1, q2, q3, q4, q5⟩, h⟩ := h
      exact fun H locs ls cells slots g1 g2 g3 g4 => pj_copy X hd (pj_tb (of_decide_eq_true hk)) (Nat.eq_of_beq_eq_true a1) (Nat.eq_of_beq_eq_true a2) g1 q1 q2 q3 q4 q5 (by rw [pj_cv_sum]; exact Nat.le_of_ble_eq_true a3) (pj_lrs g4) (fun H1 locs1 hw => h H1 locs1 ls cells slots hw g2 g3 g4)
    · by_cases hbx : Nat.ble 1000 x = true
      · exact (pj_noC hCn (Nat.le_of_ble_eq_true hbx) h).elim
      · exact pj_stepC X hM hR1 hR2 (by cases q : Nat.ble 1000 x <;> first | rfl | exact absurd q hbx) h3.1 h3.2 (Or.inr (Or.inl ⟨rfl, rfl, hd⟩)) (Or.inr ⟨by decide, rfl, rfl⟩) h
  case ireturn =>
    obtain rfl : len = 1 := hlen rfl
    obtain ⟨a, r, rfl, k1⟩ := pj_pI_e h
    clear h
    obtain ⟨hb2, h⟩ := pj_c_e k1
    clear k1
    simp only [Bool.and_eq_true] at hb2
    obtain ⟨⟨b1, b2⟩, b3⟩ := hb2
    obtain rfl : r = [] := List.isEmpty_iff.mp b1
    have b2 := Nat.eq_of_beq_eq_true b2
    have b3 := Nat.eq_of_beq_eq_true b3
    rw [Bool.or_eq_true] at h3
    intro H locs ls cells slots g1 g2 g3 g4
    obtain rfl : cells = R.cells := by omega
    obtain rfl : slots = R.slots := by omega
    refine hE.1 pc H locs ls Z I J a (h3.imp Nat.eq_of_beq_eq_true Nat.eq_of_beq_eq_true) hd ?_ ?_ g1
    · intro hrt; subst hrt; exact h.1
    · cases rt
      · exact h
      · exact h.2
  case lreturn =>
    obtain rfl : len = 1 := hlen rfl
    obtain ⟨a, r, rfl, k1⟩ := pj_pL_e h
    clear h
    obtain ⟨hb2, h⟩ := pj_c_e k1
    clear k1
    simp only [Bool.and_eq_true] at hb2
    obtain ⟨⟨b1, b2⟩, b3⟩ := hb2
    obtain rfl : r = [] := List.isEmpty_iff.mp b1
    have b2 := Nat.eq_of_beq_eq_true b2
    have b3 := Nat.eq_of_beq_eq_true b3
    intro H locs ls cells slots g1 g2 g3 g4
    obtain rfl : cells = R.cells := by omega
    obtain rfl : slots = R.slots := by omega
    exact hE.2.1 pc H locs ls Z I J a (Nat.eq_of_beq_eq_true h3) hd h g1
  case return_ =>
    obtain rfl : len = 1 := hlen rfl
    obtain ⟨hb2, k1⟩ := pj_c_e h
    clear h
    have h := k1
    clear k1
    simp only [Bool.and_eq_true] at hb2
    obtain ⟨⟨b1, b2⟩, b3⟩ := hb2
    obtain rfl : st = [] := List.isEmpty_iff.mp b1
    have b2 := Nat.eq_of_beq_eq_true b2
    have b3 := Nat.eq_of_beq_eq_true b3
    intro H locs ls cells slots g1 g2 g3 g4
    obtain rfl : cells = R.cells := by omega
    obtain rfl : slots = R.slots := by omega
    exact hE.2.2 pc H locs ls Z I J (Nat.eq_of_beq_eq_true h3) hd h g1
  all_goals exact h.elim
end PZ
end
section
/-! contracts of all our methods, by depth -/
theorem pj_en_len : ∀ (ω : pj_Wd) (vs : List Value), (lg_sl (vs.map (pj_cv ω))).length = (pj_en vs).length
  | ω, [] => rfl
  | ω, v :: vs => by
    have ih := pj_en_len ω vs
    unfold lg_sl at ih ⊢
    rw [List.map_cons, List.flatMap_cons, List.length_append, ih, pj_cv_cat]
    cases v <;> simp [pj_en, Value.category] <;> omega
theorem pj_pad_get {n i : Nat} {L : pj_L} {v : Value} (h : (pj_pad n L)[i]? = some (some v)) : L[i]? = some (some v) := by
  unfold pj_pad at h
  rcases Nat.lt_or_ge i L.length with q | q
  · rw [List.getElem?_append_left q] at h
    exact h
  · rw [List.getElem?_append_right q, List.getElem?_replicate] at h
    split at h <;> cases h
theorem pj_enter (ω : pj_Wd) (as : List Value) {n : Nat} (h : (pj_en as).length ≤ n) : pj_lr ω ((lg_sl (as.map (pj_cv ω)) ++ List.replicate (n - (lg_sl (as.map (pj_cv ω))).length) Slot.unset).toArray) n (pj_pad n (pj_en as)) := by
  refine ⟨by unfold pj_pad; rw [List.length_append, List.length_replicate]; omega, lv_args 0 (as.map (pj_cv ω)), lv_entry (as.map (pj_cv ω)) (by rw [pj_en_len]; exact h), fun i v e => ?_⟩
  have := pj_en_args (ω := ω) as 0 i v (pj_pad_get e)
  rwa [Nat.zero_add] at this
/-- every instruction of the method is in order -/
def pj_okB (k : Nat) (t : pj_T) : Prop := t.2.2.all (pj_oD t.1.2.1) = true ∧ t.2.2.all (pj_oM t.2.1.1 (decide ((mp k).2 = 2)) (pj_rk t.1.2.2.2)) = true
theorem pj_Cn {d : Nat} : ∀ (x : Nat) (as : List Value) (σ : pj_S) (K : pj_K), tm x = none → pj_C tm ta d x as σ K → False := by
  intro x as σ K ht h
  cases d with
  | zero => exact h
  | succ d =>
    unfold pj_C at h
    rw [ht] at h
    exact h
set_option maxHeartbeats 4000000 in
theorem pj_met (l : Launch) (ω : pj_Wd) (hB : ∀ k t, tm k = some t → pj_okB k t) : ∀ d, pj_hM l ω (pj_C tm ta d) d
  | 0 => fun k as σ K t hk ht h => h.elim
  | d + 1 => by
    intro k as σ K t hk ht h
    have ih := pj_met l ω hB d
    unfold pj_C at h
    rw [ht] at h
    obtain ⟨hle, h⟩ := pj_c_e h
    have hle := Nat.le_of_ble_eq_true hle
    have hP := pj_okAll hk ht
    obtain ⟨hD, hO⟩ := hB k t ht
    obtain ⟨hpl, hcls, hcode, hini, hy1, hy2, hpar, hml40, hrt, hret, hkind⟩ := hP
    refine Met.ofW (cc := t.1.2.1) (maxL := t.1.2.2.1) (ret := t.1.2.2.2) hpl rfl ?_
    intro p e s m args below meth c s₁ B hml hv
    obtain ⟨hargs, hwf, hPh, hsz, hK, hn0, hI0, hX, hbl, hst⟩ := hv
    subst hargs
    have hts0 := atoms_spec (ws := pj_ws t) B.pre
    have hts : ∀ w ∈ pj_tbl, w.before (as.map (pj_cv ω)).toArray s = true := fun w hw => hts0 w (List.mem_cons_of_mem _ hw)
    have hown : s.vm.findClass (cn t.2.1.1) = some m.cls := by rw [← hcls]; exact findClass_of_methodNamed B.named
    have hlocks := B.notSynchronized
    have hr := B.returns
    have hname : meth.name = t.1.1.name := (name_of_methodNamed B.named B.method).1
    have hsz1 : ω.2.2.2.2.1 ≤ s.heap.size := by rw [hsz]; exact Nat.le_add_right _ _
    have X : pj_X ω p (pj_rm (d + 1) k) s m (as.map (pj_cv ω)).toArray c t.1.2.1 t.1.2.2.1 t.2.1.1 :=
      ⟨B.exec, B.bytes, hml, hown, hts, hK, hsz1, ⟨hX, hbl, Nat.lt_of_lt_of_le hbl hsz1⟩, by show 64 ≤ 64 * (d + 1) + 640; omega, by show 1 ≤ d + 1 + 10; omega, hst⟩
    have hini2 : decide ((mp k).2 = 2) = true → meth.name = "<init>" := by
      intro q
      have q := of_decide_eq_true q
      rw [hname]
      rcases hkind with ⟨q1, -⟩ | ⟨q1, -⟩ | ⟨-, -, q2, -⟩
      · rw [q] at q1; cases q1
      · rw [q] at q1; cases q1
      · exact q2
    have hE : pj_end ω p l e (pj_rm (d + 1) k) s m (as.map (pj_cv ω)).toArray below meth c t.1.2.1 (MQ below (pj_Qc ω (ta k).1 K) (as.map (pj_cv ω)).toArray s (ta k).1 (ta k).2 (fun x => ω.2.2.2.2.1 ≤ x)) t.2.1.2 (pj_rk t.1.2.2.2) K := by
      have fin : ∀ (r : Option Value) (Z : pj_Z) (I : Nat → Nat → Int32) (J : Nat → Nat → Int64) (H : Heap) (locs : List Loc), K r (Z, I, J) → pj_wd ω s Z I J H locs (ta k).1 → ∀ u : State, u.heap = H → s.WarmedH u.vm → pj_Qc ω (ta k).1 K (as.map (pj_cv ω)).toArray s (.returned (r.map (pj_cv ω))) u := by
        intro r Z I J H locs hk g u hu hw
        exact ⟨⟨r, (Z, I, J), hk, rfl, g.1, by rw [hu]; exact g.2.1, g.2.2.1, g.2.2.2.2.1, g.2.2.2.2.2⟩, g.2.2.2.1.F hu⟩
      refine ⟨?_, ?_, ?_⟩
      · intro pc H locs ls Z I J a hk hd ha hq g
        rcases hret with q | q | q | q
        · rw [q] at hk; rcases hk with hk | hk <;> cases hk
        · exact W.iret B.exec B.bytes (by rw [hr, q]) (fun u hu hw => fin (some (.int a)) Z I J H locs hq g u hu hw) g.2.2.2.1.2.2 hd
        · rw [q] at hk; rcases hk with hk | hk <;> cases hk
        · have ha := ha (by rw [hrt, q]; rfl)
          exact W.zret (ty := .boolean) B.exec B.bytes (by rw [hr, q]) (by show Value.int (a &&& 1) = _; rw [ha]) (fun u hu hw => fin (some (.int a)) Z I J H locs hq g u hu hw) g.2.2.2.1.2.2 hd
      · intro pc H locs ls Z I J a hk hd hq g
        rcases hret with q | q | q | q
        · rw [q] at hk; cases hk
        · rw [q] at hk; cases hk
        · exact W.lret B.exec B.bytes (by rw [hr, q]) (fun u hu hw => fin (some (.long a)) Z I J H locs hq g u hu hw) g.2.2.2.1.2.2 hd
        · rw [q] at hk; cases hk
      · intro pc H locs ls Z I J hk hd hq g
        rcases hret with q | q | q | q
        · exact W.vret B.exec B.bytes (by rw [hr, q]) (fun u hu hw => fin none Z I J H locs hq g u hu hw) g.2.2.2.1.2.2 hd
        · rw [q] at hk; cases hk
        · rw [q] at hk; cases hk
        · rw [q] at hk; cases hk
    have walk := h (pj_W ω p l e (pj_rm (d + 1) k) s m (as.map (pj_cv ω)).toArray below meth c t.1.2.2.1 (MQ below (pj_Qc ω (ta k).1 K) (as.map (pj_cv ω)).toArray s (ta k).1 (ta k).2 (fun x => ω.2.2.2.2.1 ≤ x))) (fun pc L st Z I J bc bs q => by
      unfold pj_1 at q
      cases hat : pj_at pc t.2.2 with
      | none => rw [hat] at q; exact q.elim
      | some en =>
        rw [hat] at q
        obtain ⟨i, len, nx, ⟨x, y, z⟩, w, v, sw⟩ := en
        obtain ⟨ch, hch, hmem⟩ := pj_at_mem hat
        have h1 := List.all_eq_true.mp (List.all_eq_true.mp hD ch hch) _ hmem
        have h2 := List.all_eq_true.mp (List.all_eq_true.mp hO ch hch) _ hmem
        exact pj_step X ih (by show d + 11 ≤ d + 1 + 10; omega) (by show 64 * d + 704 ≤ 64 * (d + 1) + 640; omega) hini2 hE pj_Cn (of_decide_eq_true h1) h2 q)
    have hs0 : pj_wd ω s σ.1 σ.2.1 σ.2.2 s.heap [] 0 := ⟨hwf, hPh, by rw [hsz]; rfl, va_S.rf, hn0, hI0⟩
    rw [lg_entry_eq]
    exact walk s.heap [] _ 0 0 hs0 (Nat.zero_add _) (Nat.zero_add _) (pj_enter ω as hle)
end
