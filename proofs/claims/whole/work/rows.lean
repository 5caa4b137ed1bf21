section
-- ===== PART A: goes FIRST, ahead of the names: the tables' words, and 'selects' of the private methods out of them =====
/-- a private method of a class that the tables say can be made, by its rows of tables_1 -/
def lw_okq (q : MethodName × Nat) : Prop := (q.1.cls ≠ "java/lang/invoke/MethodHandle" ∧ q.1.cls ≠ "java/lang/invoke/VarHandle") ∧ Cond.instantiable q.1.cls q.2 ∈ tables_1 ∧ Cond.privateMethod q.1 ∈ tables_1 ∧ Cond.instanceMethod q.1 ∈ tables_1
theorem lw_p0 : lw_okq (⟨"GlassValley", "isWeekToCome", "(I)Z"⟩, 11) := ⟨⟨by decide +kernel, by decide +kernel⟩, List.mem_of_getElem? (i := 17) (by decide +kernel), List.mem_of_getElem? (i := 328) (by decide +kernel), List.mem_of_getElem? (i := 329) (by decide +kernel)⟩
theorem lw_p1 : lw_okq (⟨"GlassValley", "isOrder", "(I)Z"⟩, 11) := ⟨⟨by decide +kernel, by decide +kernel⟩, List.mem_of_getElem? (i := 17) (by decide +kernel), List.mem_of_getElem? (i := 367) (by decide +kernel), List.mem_of_getElem? (i := 368) (by decide +kernel)⟩
theorem lw_p2 : lw_okq (⟨"GlassValley$Tape", "skipBlanks", "()V"⟩, 6) := ⟨⟨by decide +kernel, by decide +kernel⟩, List.mem_of_getElem? (i := 37) (by decide +kernel), List.mem_of_getElem? (i := 400) (by decide +kernel), List.mem_of_getElem? (i := 401) (by decide +kernel)⟩
theorem lw_p3 : lw_okq (⟨"GlassValley$Tape", "readWord", "()V"⟩, 6) := ⟨⟨by decide +kernel, by decide +kernel⟩, List.mem_of_getElem? (i := 37) (by decide +kernel), List.mem_of_getElem? (i := 407) (by decide +kernel), List.mem_of_getElem? (i := 408) (by decide +kernel)⟩
theorem lw_p4 : lw_okq (⟨"GlassValley$Tape", "keyword", "()I"⟩, 6) := ⟨⟨by decide +kernel, by decide +kernel⟩, List.mem_of_getElem? (i := 37) (by decide +kernel), List.mem_of_getElem? (i := 411) (by decide +kernel), List.mem_of_getElem? (i := 412) (by decide +kernel)⟩
theorem lw_p5 : lw_okq (⟨"GlassValley$Tape", "isWord", "(Ljava/lang/String;)Z"⟩, 6) := ⟨⟨by decide +kernel, by decide +kernel⟩, List.mem_of_getElem? (i := 37) (by decide +kernel), List.mem_of_getElem? (i := 416) (by decide +kernel), List.mem_of_getElem? (i := 417) (by decide +kernel)⟩
theorem lw_p6 : lw_okq (⟨"GlassValley$Tape", "readNumber", "()V"⟩, 6) := ⟨⟨by decide +kernel, by decide +kernel⟩, List.mem_of_getElem? (i := 37) (by decide +kernel), List.mem_of_getElem? (i := 478) (by decide +kernel), List.mem_of_getElem? (i := 479) (by decide +kernel)⟩
theorem lw_p7 : lw_okq (⟨"GlassValley$CustomReader", "readLine", "(LGlassValley$Rights;)Z"⟩, 5) := ⟨⟨by decide +kernel, by decide +kernel⟩, List.mem_of_getElem? (i := 31) (by decide +kernel), List.mem_of_getElem? (i := 482) (by decide +kernel), List.mem_of_getElem? (i := 483) (by decide +kernel)⟩
theorem lw_p8 : lw_okq (⟨"GlassValley$CustomReader", "stopAt", "(I)Z"⟩, 5) := ⟨⟨by decide +kernel, by decide +kernel⟩, List.mem_of_getElem? (i := 31) (by decide +kernel), List.mem_of_getElem? (i := 486) (by decide +kernel), List.mem_of_getElem? (i := 487) (by decide +kernel)⟩
theorem lw_p9 : lw_okq (⟨"GlassValley$CustomReader", "readParts", "([I)Z"⟩, 5) := ⟨⟨by decide +kernel, by decide +kernel⟩, List.mem_of_getElem? (i := 31) (by decide +kernel), List.mem_of_getElem? (i := 502) (by decide +kernel), List.mem_of_getElem? (i := 503) (by decide +kernel)⟩
theorem lw_p10 : lw_okq (⟨"GlassValley$CustomReader", "leastOf", "(I)I"⟩, 5) := ⟨⟨by decide +kernel, by decide +kernel⟩, List.mem_of_getElem? (i := 31) (by decide +kernel), List.mem_of_getElem? (i := 506) (by decide +kernel), List.mem_of_getElem? (i := 507) (by decide +kernel)⟩
theorem lw_p11 : lw_okq (⟨"GlassValley$CustomReader", "tell", "(ILGlassValley$Rights;)V"⟩, 5) := ⟨⟨by decide +kernel, by decide +kernel⟩, List.mem_of_getElem? (i := 31) (by decide +kernel), List.mem_of_getElem? (i := 514) (by decide +kernel), List.mem_of_getElem? (i := 515) (by decide +kernel)⟩
theorem lw_p12 : lw_okq (⟨"GlassValley", "countOrders", "(I)I"⟩, 11) := ⟨⟨by decide +kernel, by decide +kernel⟩, List.mem_of_getElem? (i := 17) (by decide +kernel), List.mem_of_getElem? (i := 546) (by decide +kernel), List.mem_of_getElem? (i := 547) (by decide +kernel)⟩
theorem lw_p13 : lw_okq (⟨"GlassValley", "bringPlanUpToDate", "()V"⟩, 11) := ⟨⟨by decide +kernel, by decide +kernel⟩, List.mem_of_getElem? (i := 17) (by decide +kernel), List.mem_of_getElem? (i := 558) (by decide +kernel), List.mem_of_getElem? (i := 559) (by decide +kernel)⟩
theorem lw_p14 : lw_okq (⟨"GlassValley$Plan", "lineUp", "([LGlassValley$ShipOrder;I)V"⟩, 15) := ⟨⟨by decide +kernel, by decide +kernel⟩, List.mem_of_getElem? (i := 88) (by decide +kernel), List.mem_of_getElem? (i := 566) (by decide +kernel), List.mem_of_getElem? (i := 567) (by decide +kernel)⟩
theorem lw_p15 : lw_okq (⟨"GlassValley$Plan", "startAt", "(LGlassValley$Family;I)V"⟩, 15) := ⟨⟨by decide +kernel, by decide +kernel⟩, List.mem_of_getElem? (i := 88) (by decide +kernel), List.mem_of_getElem? (i := 570) (by decide +kernel), List.mem_of_getElem? (i := 571) (by decide +kernel)⟩
def lw_privs_1 : List (MethodName × Nat) := [(⟨"GlassValley", "isWeekToCome", "(I)Z"⟩, 11), (⟨"GlassValley", "isOrder", "(I)Z"⟩, 11), (⟨"GlassValley$Tape", "skipBlanks", "()V"⟩, 6), (⟨"GlassValley$Tape", "readWord", "()V"⟩, 6), (⟨"GlassValley$Tape", "keyword", "()I"⟩, 6), (⟨"GlassValley$Tape", "isWord", "(Ljava/lang/String;)Z"⟩, 6), (⟨"GlassValley$Tape", "readNumber", "()V"⟩, 6), (⟨"GlassValley$CustomReader", "readLine", "(LGlassValley$Rights;)Z"⟩, 5), (⟨"GlassValley$CustomReader", "stopAt", "(I)Z"⟩, 5), (⟨"GlassValley$CustomReader", "readParts", "([I)Z"⟩, 5), (⟨"GlassValley$CustomReader", "leastOf", "(I)I"⟩, 5), (⟨"GlassValley$CustomReader", "tell", "(ILGlassValley$Rights;)V"⟩, 5), (⟨"GlassValley", "countOrders", "(I)I"⟩, 11), (⟨"GlassValley", "bringPlanUpToDate", "()V"⟩, 11), (⟨"GlassValley$Plan", "lineUp", "([LGlassValley$ShipOrder;I)V"⟩, 15), (⟨"GlassValley$Plan", "startAt", "(LGlassValley$Family;I)V"⟩, 15)]
theorem lw_r1 : ∀ q ∈ lw_privs_1, lw_okq q := List.forall_mem_cons.mpr ⟨lw_p0, List.forall_mem_cons.mpr ⟨lw_p1, List.forall_mem_cons.mpr ⟨lw_p2, List.forall_mem_cons.mpr ⟨lw_p3, List.forall_mem_cons.mpr ⟨lw_p4, List.forall_mem_cons.mpr ⟨lw_p5, List.forall_mem_cons.mpr ⟨lw_p6, List.forall_mem_cons.mpr ⟨lw_p7, List.forall_mem_cons.mpr ⟨lw_p8, List.forall_mem_cons.mpr ⟨lw_p9, List.forall_mem_cons.mpr ⟨lw_p10, List.forall_mem_cons.mpr ⟨lw_p11, List.forall_mem_cons.mpr ⟨lw_p12, List.forall_mem_cons.mpr ⟨lw_p13, List.forall_mem_cons.mpr ⟨lw_p14, List.forall_mem_cons.mpr ⟨lw_p15, fun _ h => absurd h List.not_mem_nil⟩⟩⟩⟩⟩⟩⟩⟩⟩⟩⟩⟩⟩⟩⟩⟩
theorem lw_p16 : lw_okq (⟨"GlassValley$Plan", "addToSets", "(ILGlassValley$ShipOrder;LGlassValley$Family;LGlassValley$Rights;)V"⟩, 15) := ⟨⟨by decide +kernel, by decide +kernel⟩, List.mem_of_getElem? (i := 88) (by decide +kernel), List.mem_of_getElem? (i := 574) (by decide +kernel), List.mem_of_getElem? (i := 575) (by decide +kernel)⟩
theorem lw_p17 : lw_okq (⟨"GlassValley$Plan", "shareAlsoWith", "(I)V"⟩, 15) := ⟨⟨by decide +kernel, by decide +kernel⟩, List.mem_of_getElem? (i := 88) (by decide +kernel), List.mem_of_getElem? (i := 595) (by decide +kernel), List.mem_of_getElem? (i := 596) (by decide +kernel)⟩
theorem lw_p18 : lw_okq (⟨"GlassValley$Plan", "tellWay", "([LGlassValley$Family;[LGlassValley$ShipOrder;LGlassValley$Rights;I)V"⟩, 15) := ⟨⟨by decide +kernel, by decide +kernel⟩, List.mem_of_getElem? (i := 88) (by decide +kernel), List.mem_of_getElem? (i := 599) (by decide +kernel), List.mem_of_getElem? (i := 600) (by decide +kernel)⟩
theorem lw_p19 : lw_okq (⟨"GlassValley$Plan", "tellOrder", "(LGlassValley$ShipOrder;LGlassValley$Family;LGlassValley$Rights;I)V"⟩, 15) := ⟨⟨by decide +kernel, by decide +kernel⟩, List.mem_of_getElem? (i := 88) (by decide +kernel), List.mem_of_getElem? (i := 603) (by decide +kernel), List.mem_of_getElem? (i := 604) (by decide +kernel)⟩
theorem lw_p20 : lw_okq (⟨"GlassValley", "workAsPlanned", "(LGlassValley$ShipOrder;)V"⟩, 11) := ⟨⟨by decide +kernel, by decide +kernel⟩, List.mem_of_getElem? (i := 17) (by decide +kernel), List.mem_of_getElem? (i := 614) (by decide +kernel), List.mem_of_getElem? (i := 615) (by decide +kernel)⟩
theorem lw_p21 : lw_okq (⟨"GlassValleyModel", "isOpen", "(I)Z"⟩, 44) := ⟨⟨by decide +kernel, by decide +kernel⟩, List.mem_of_getElem? (i := 622) (by decide +kernel), List.mem_of_getElem? (i := 781) (by decide +kernel), List.mem_of_getElem? (i := 782) (by decide +kernel)⟩
theorem lw_p22 : lw_okq (⟨"GlassValleyModel", "counts", "(I)V"⟩, 44) := ⟨⟨by decide +kernel, by decide +kernel⟩, List.mem_of_getElem? (i := 622) (by decide +kernel), List.mem_of_getElem? (i := 785) (by decide +kernel), List.mem_of_getElem? (i := 786) (by decide +kernel)⟩
theorem lw_p23 : lw_okq (⟨"GlassValleyModel", "next0", "()V"⟩, 44) := ⟨⟨by decide +kernel, by decide +kernel⟩, List.mem_of_getElem? (i := 622) (by decide +kernel), List.mem_of_getElem? (i := 818) (by decide +kernel), List.mem_of_getElem? (i := 819) (by decide +kernel)⟩
theorem lw_p24 : lw_okq (⟨"GlassValleyModel", "see", "(I)I"⟩, 44) := ⟨⟨by decide +kernel, by decide +kernel⟩, List.mem_of_getElem? (i := 622) (by decide +kernel), List.mem_of_getElem? (i := 822) (by decide +kernel), List.mem_of_getElem? (i := 823) (by decide +kernel)⟩
theorem lw_p25 : lw_okq (⟨"GlassValleyModel", "aLine", "()Z"⟩, 44) := ⟨⟨by decide +kernel, by decide +kernel⟩, List.mem_of_getElem? (i := 622) (by decide +kernel), List.mem_of_getElem? (i := 843) (by decide +kernel), List.mem_of_getElem? (i := 844) (by decide +kernel)⟩
theorem lw_p26 : lw_okq (⟨"GlassValleyModel", "bad", "(I)Z"⟩, 44) := ⟨⟨by decide +kernel, by decide +kernel⟩, List.mem_of_getElem? (i := 622) (by decide +kernel), List.mem_of_getElem? (i := 847) (by decide +kernel), List.mem_of_getElem? (i := 848) (by decide +kernel)⟩
theorem lw_p27 : lw_okq (⟨"GlassValleyModel", "aNumber", "(II)Z"⟩, 44) := ⟨⟨by decide +kernel, by decide +kernel⟩, List.mem_of_getElem? (i := 622) (by decide +kernel), List.mem_of_getElem? (i := 851) (by decide +kernel), List.mem_of_getElem? (i := 852) (by decide +kernel)⟩
theorem lw_p28 : lw_okq (⟨"GlassValleyModel", "need", "(I)Z"⟩, 44) := ⟨⟨by decide +kernel, by decide +kernel⟩, List.mem_of_getElem? (i := 622) (by decide +kernel), List.mem_of_getElem? (i := 855) (by decide +kernel), List.mem_of_getElem? (i := 856) (by decide +kernel)⟩
theorem lw_p29 : lw_okq (⟨"GlassValleyModel", "tells", "(I)V"⟩, 44) := ⟨⟨by decide +kernel, by decide +kernel⟩, List.mem_of_getElem? (i := 622) (by decide +kernel), List.mem_of_getElem? (i := 859) (by decide +kernel), List.mem_of_getElem? (i := 860) (by decide +kernel)⟩
theorem lw_p30 : lw_okq (⟨"GlassValleyModel", "isAllowed", "(III)Z"⟩, 44) := ⟨⟨by decide +kernel, by decide +kernel⟩, List.mem_of_getElem? (i := 622) (by decide +kernel), List.mem_of_getElem? (i := 871) (by decide +kernel), List.mem_of_getElem? (i := 872) (by decide +kernel)⟩
theorem lw_p31 : lw_okq (⟨"GlassValleyModel", "finds", "()V"⟩, 44) := ⟨⟨by decide +kernel, by decide +kernel⟩, List.mem_of_getElem? (i := 622) (by decide +kernel), List.mem_of_getElem? (i := 887) (by decide +kernel), List.mem_of_getElem? (i := 888) (by decide +kernel)⟩
def lw_privs_2 : List (MethodName × Nat) := [(⟨"GlassValley$Plan", "addToSets", "(ILGlassValley$ShipOrder;LGlassValley$Family;LGlassValley$Rights;)V"⟩, 15), (⟨"GlassValley$Plan", "shareAlsoWith", "(I)V"⟩, 15), (⟨"GlassValley$Plan", "tellWay", "([LGlassValley$Family;[LGlassValley$ShipOrder;LGlassValley$Rights;I)V"⟩, 15), (⟨"GlassValley$Plan", "tellOrder", "(LGlassValley$ShipOrder;LGlassValley$Family;LGlassValley$Rights;I)V"⟩, 15), (⟨"GlassValley", "workAsPlanned", "(LGlassValley$ShipOrder;)V"⟩, 11), (⟨"GlassValleyModel", "isOpen", "(I)Z"⟩, 44), (⟨"GlassValleyModel", "counts", "(I)V"⟩, 44), (⟨"GlassValleyModel", "next0", "()V"⟩, 44), (⟨"GlassValleyModel", "see", "(I)I"⟩, 44), (⟨"GlassValleyModel", "aLine", "()Z"⟩, 44), (⟨"GlassValleyModel", "bad", "(I)Z"⟩, 44), (⟨"GlassValleyModel", "aNumber", "(II)Z"⟩, 44), (⟨"GlassValleyModel", "need", "(I)Z"⟩, 44), (⟨"GlassValleyModel", "tells", "(I)V"⟩, 44), (⟨"GlassValleyModel", "isAllowed", "(III)Z"⟩, 44), (⟨"GlassValleyModel", "finds", "()V"⟩, 44)]
theorem lw_r2 : ∀ q ∈ lw_privs_2, lw_okq q := List.forall_mem_cons.mpr ⟨lw_p16, List.forall_mem_cons.mpr ⟨lw_p17, List.forall_mem_cons.mpr ⟨lw_p18, List.forall_mem_cons.mpr ⟨lw_p19, List.forall_mem_cons.mpr ⟨lw_p20, List.forall_mem_cons.mpr ⟨lw_p21, List.forall_mem_cons.mpr ⟨lw_p22, List.forall_mem_cons.mpr ⟨lw_p23, List.forall_mem_cons.mpr ⟨lw_p24, List.forall_mem_cons.mpr ⟨lw_p25, List.forall_mem_cons.mpr ⟨lw_p26, List.forall_mem_cons.mpr ⟨lw_p27, List.forall_mem_cons.mpr ⟨lw_p28, List.forall_mem_cons.mpr ⟨lw_p29, List.forall_mem_cons.mpr ⟨lw_p30, List.forall_mem_cons.mpr ⟨lw_p31, fun _ h => absurd h List.not_mem_nil⟩⟩⟩⟩⟩⟩⟩⟩⟩⟩⟩⟩⟩⟩⟩⟩
theorem lw_p32 : lw_okq (⟨"GlassValleyModel", "does", "(II)Z"⟩, 44) := ⟨⟨by decide +kernel, by decide +kernel⟩, List.mem_of_getElem? (i := 622) (by decide +kernel), List.mem_of_getElem? (i := 891) (by decide +kernel), List.mem_of_getElem? (i := 892) (by decide +kernel)⟩
theorem lw_p33 : lw_okq (⟨"GlassValleyModel", "sorts", "(I)V"⟩, 44) := ⟨⟨by decide +kernel, by decide +kernel⟩, List.mem_of_getElem? (i := 622) (by decide +kernel), List.mem_of_getElem? (i := 895) (by decide +kernel), List.mem_of_getElem? (i := 896) (by decide +kernel)⟩
theorem lw_p34 : lw_okq (⟨"GlassValleyModel", "left", "(II)I"⟩, 44) := ⟨⟨by decide +kernel, by decide +kernel⟩, List.mem_of_getElem? (i := 622) (by decide +kernel), List.mem_of_getElem? (i := 899) (by decide +kernel), List.mem_of_getElem? (i := 900) (by decide +kernel)⟩
theorem lw_p35 : lw_okq (⟨"GlassValleyModel", "tries", "(III)V"⟩, 44) := ⟨⟨by decide +kernel, by decide +kernel⟩, List.mem_of_getElem? (i := 622) (by decide +kernel), List.mem_of_getElem? (i := 903) (by decide +kernel), List.mem_of_getElem? (i := 904) (by decide +kernel)⟩
theorem lw_p36 : lw_okq (⟨"GlassValleyModel", "canAll", "()Z"⟩, 44) := ⟨⟨by decide +kernel, by decide +kernel⟩, List.mem_of_getElem? (i := 622) (by decide +kernel), List.mem_of_getElem? (i := 907) (by decide +kernel), List.mem_of_getElem? (i := 908) (by decide +kernel)⟩
theorem lw_p37 : lw_okq (⟨"GlassValleyModel", "setOf", "(I)I"⟩, 44) := ⟨⟨by decide +kernel, by decide +kernel⟩, List.mem_of_getElem? (i := 622) (by decide +kernel), List.mem_of_getElem? (i := 911) (by decide +kernel), List.mem_of_getElem? (i := 912) (by decide +kernel)⟩
theorem lw_p38 : lw_okq (⟨"GlassValleyModel", "works", "(I)V"⟩, 44) := ⟨⟨by decide +kernel, by decide +kernel⟩, List.mem_of_getElem? (i := 622) (by decide +kernel), List.mem_of_getElem? (i := 919) (by decide +kernel), List.mem_of_getElem? (i := 920) (by decide +kernel)⟩
def lw_privs_3 : List (MethodName × Nat) := [(⟨"GlassValleyModel", "does", "(II)Z"⟩, 44), (⟨"GlassValleyModel", "sorts", "(I)V"⟩, 44), (⟨"GlassValleyModel", "left", "(II)I"⟩, 44), (⟨"GlassValleyModel", "tries", "(III)V"⟩, 44), (⟨"GlassValleyModel", "canAll", "()Z"⟩, 44), (⟨"GlassValleyModel", "setOf", "(I)I"⟩, 44), (⟨"GlassValleyModel", "works", "(I)V"⟩, 44)]
theorem lw_r3 : ∀ q ∈ lw_privs_3, lw_okq q := List.forall_mem_cons.mpr ⟨lw_p32, List.forall_mem_cons.mpr ⟨lw_p33, List.forall_mem_cons.mpr ⟨lw_p34, List.forall_mem_cons.mpr ⟨lw_p35, List.forall_mem_cons.mpr ⟨lw_p36, List.forall_mem_cons.mpr ⟨lw_p37, List.forall_mem_cons.mpr ⟨lw_p38, fun _ h => absurd h List.not_mem_nil⟩⟩⟩⟩⟩⟩⟩
def lw_privs : List (MethodName × Nat) := lw_privs_1 ++ (lw_privs_2 ++ (lw_privs_3))
def lw_tbl : List Cond := k2_sels lw_privs ++ tables_1
theorem lw_privs_ok : ∀ q ∈ lw_privs, lw_okq q := by
  show ∀ q ∈ lw_privs_1 ++ (lw_privs_2 ++ (lw_privs_3)), lw_okq q
  exact List.forall_mem_append.mpr ⟨lw_r1, List.forall_mem_append.mpr ⟨lw_r2, lw_r3⟩⟩
-- ===== end of PART A; then your names; then what follows =====
def RX0 : String := "GlassValley$Bench"
def TX0 : u_T := fun k => match k with
  | 0 => ("GlassValley$Bench", "week", "I", false)
  | _ => ("GlassValley$Bench", "hoursLeft", "I", false)
def tyX0 : Nat → FieldType := fun k => match k with
  | 0 => .int
  | _ => .int
theorem nmX0 : ∀ a, a < 2 → ∀ b, b < 2 → a ≠ b → (TX0 a).2.1 ≠ (TX0 b).2.1 := by decide +kernel
theorem tyX0_ok : ∀ k, k < 2 → parseFieldDescriptor (TX0 k).2.2.1 = some (tyX0 k) := by decide +kernel
abbrev cX0_init : ByteArray := prog_2_method_1_code
def yX0_init : MethodName := ⟨RX0, "<init>", "()V"⟩
abbrev cX0_lay : ByteArray := prog_2_method_2_code
def yX0_lay : MethodName := ⟨RX0, "lay", "(LGlassValley$ShipOrder;LGlassValley$Family;LGlassValley$Rights;)Z"⟩
def RX1 : String := "GlassValley$CustomReader"
def TX1 : u_T := fun k => match k with
  | 0 => ("GlassValley$CustomReader", "tape", "LGlassValley$Tape;", true)
  | 1 => ("GlassValley$CustomReader", "lines", "I", false)
  | 2 => ("GlassValley$CustomReader", "faultKind", "I", false)
  | 3 => ("GlassValley$CustomReader", "faultPlace", "I", false)
  | _ => ("GlassValley$CustomReader", "numbers", "[I", true)
def tyX1 : Nat → FieldType := fun k => match k with
  | 0 => .object "GlassValley$Tape"
  | 1 => .int
  | 2 => .int
  | 3 => .int
  | _ => .array .int
theorem nmX1 : ∀ a, a < 5 → ∀ b, b < 5 → a ≠ b → (TX1 a).2.1 ≠ (TX1 b).2.1 := by decide +kernel
theorem tyX1_ok : ∀ k, k < 5 → parseFieldDescriptor (TX1 k).2.2.1 = some (tyX1 k) := by decide +kernel
abbrev cX1_init : ByteArray := prog_3_method_1_code
def yX1_init : MethodName := ⟨RX1, "<init>", "()V"⟩
abbrev cX1_readInto : ByteArray := prog_3_method_2_code
def yX1_readInto : MethodName := ⟨RX1, "readInto", "(LGlassValley$Rights;)Z"⟩
abbrev cX1_readLine : ByteArray := prog_3_method_3_code
def yX1_readLine : MethodName := ⟨RX1, "readLine", "(LGlassValley$Rights;)Z"⟩
abbrev cX1_formOf : ByteArray := prog_3_method_4_code
def yX1_formOf : MethodName := ⟨RX1, "formOf", "(I)[I"⟩
abbrev cX1_readParts : ByteArray := prog_3_method_5_code
def yX1_readParts : MethodName := ⟨RX1, "readParts", "([I)Z"⟩
abbrev cX1_leastOf : ByteArray := prog_3_method_6_code
def yX1_leastOf : MethodName := ⟨RX1, "leastOf", "(I)I"⟩
abbrev cX1_mostOf : ByteArray := prog_3_method_7_code
def yX1_mostOf : MethodName := ⟨RX1, "mostOf", "(I)I"⟩
abbrev cX1_tell : ByteArray := prog_3_method_8_code
def yX1_tell : MethodName := ⟨RX1, "tell", "(ILGlassValley$Rights;)V"⟩
abbrev cX1_stopAt : ByteArray := prog_3_method_9_code
def yX1_stopAt : MethodName := ⟨RX1, "stopAt", "(I)Z"⟩
def RX2 : String := "GlassValley$Family"
def TX2 : u_T := fun k => match k with
  | 0 => ("GlassValley$Family", "number", "I", true)
  | 1 => ("GlassValley$Family", "hours", "[I", true)
  | 2 => ("GlassValley$Family", "silver", "I", false)
  | _ => ("GlassValley$Family", "used", "I", false)
def tyX2 : Nat → FieldType := fun k => match k with
  | 0 => .int
  | 1 => .array .int
  | 2 => .int
  | _ => .int
theorem nmX2 : ∀ a, a < 4 → ∀ b, b < 4 → a ≠ b → (TX2 a).2.1 ≠ (TX2 b).2.1 := by decide +kernel
theorem tyX2_ok : ∀ k, k < 4 → parseFieldDescriptor (TX2 k).2.2.1 = some (tyX2 k) := by decide +kernel
abbrev cX2_init : ByteArray := prog_4_method_1_code
def yX2_init : MethodName := ⟨RX2, "<init>", "(I)V"⟩
def RX3 : String := "GlassValley$Pattern"
def TX3 : u_T := fun k => match k with
  | 0 => ("GlassValley$Pattern", "hours", "I", false)
  | 1 => ("GlassValley$Pattern", "silver", "I", false)
  | _ => ("GlassValley$Pattern", "breaks", "I", false)
def tyX3 : Nat → FieldType := fun k => match k with
  | 0 => .int
  | 1 => .int
  | _ => .int
theorem nmX3 : ∀ a, a < 3 → ∀ b, b < 3 → a ≠ b → (TX3 a).2.1 ≠ (TX3 b).2.1 := by decide +kernel
theorem tyX3_ok : ∀ k, k < 3 → parseFieldDescriptor (TX3 k).2.2.1 = some (tyX3 k) := by decide +kernel
abbrev cX3_init : ByteArray := prog_5_method_1_code
def yX3_init : MethodName := ⟨RX3, "<init>", "()V"⟩
abbrev cX3_grossToMake : ByteArray := prog_5_method_2_code
def yX3_grossToMake : MethodName := ⟨RX3, "grossToMake", "(I)I"⟩
def RX4 : String := "GlassValley$Plan"
def TX4 : u_T := fun k => match k with
  | 0 => ("GlassValley$Plan", "prices", "I", false)
  | 1 => ("GlassValley$Plan", "hours", "I", false)
  | 2 => ("GlassValley$Plan", "familyOf", "[I", true)
  | 3 => ("GlassValley$Plan", "overIn", "[I", true)
  | 4 => ("GlassValley$Plan", "hoursNow", "[I", true)
  | 5 => ("GlassValley$Plan", "row", "[I", true)
  | 6 => ("GlassValley$Plan", "open", "I", false)
  | 7 => ("GlassValley$Plan", "bench", "LGlassValley$Bench;", true)
  | 8 => ("GlassValley$Plan", "canBe", "[Z", true)
  | 9 => ("GlassValley$Plan", "endWeek", "[I", true)
  | 10 => ("GlassValley$Plan", "endHoursLeft", "[I", true)
  | 11 => ("GlassValley$Plan", "silver", "[I", true)
  | 12 => ("GlassValley$Plan", "rank", "[J", true)
  | 13 => ("GlassValley$Plan", "bestRank", "[J", true)
  | _ => ("GlassValley$Plan", "part", "[[I", true)
def tyX4 : Nat → FieldType := fun k => match k with
  | 0 => .int
  | 1 => .int
  | 2 => .array .int
  | 3 => .array .int
  | 4 => .array .int
  | 5 => .array .int
  | 6 => .int
  | 7 => .object "GlassValley$Bench"
  | 8 => .array .boolean
  | 9 => .array .int
  | 10 => .array .int
  | 11 => .array .int
  | 12 => .array .long
  | 13 => .array .long
  | _ => .array (.array .int)
theorem nmX4 : ∀ a, a < 15 → ∀ b, b < 15 → a ≠ b → (TX4 a).2.1 ≠ (TX4 b).2.1 := by decide +kernel
theorem tyX4_ok : ∀ k, k < 15 → parseFieldDescriptor (TX4 k).2.2.1 = some (tyX4 k) := by decide +kernel
abbrev cX4_init : ByteArray := prog_6_method_1_code
def yX4_init : MethodName := ⟨RX4, "<init>", "()V"⟩
abbrev cX4_find : ByteArray := prog_6_method_2_code
def yX4_find : MethodName := ⟨RX4, "find", "([LGlassValley$Family;[LGlassValley$ShipOrder;ILGlassValley$Rights;I)V"⟩
abbrev cX4_lineUp : ByteArray := prog_6_method_3_code
def yX4_lineUp : MethodName := ⟨RX4, "lineUp", "([LGlassValley$ShipOrder;I)V"⟩
abbrev cX4_startAt : ByteArray := prog_6_method_4_code
def yX4_startAt : MethodName := ⟨RX4, "startAt", "(LGlassValley$Family;I)V"⟩
abbrev cX4_addToSets : ByteArray := prog_6_method_5_code
def yX4_addToSets : MethodName := ⟨RX4, "addToSets", "(ILGlassValley$ShipOrder;LGlassValley$Family;LGlassValley$Rights;)V"⟩
abbrev cX4_rankOf : ByteArray := prog_6_method_6_code
def yX4_rankOf : MethodName := ⟨RX4, "rankOf", "(LGlassValley$ShipOrder;I)J"⟩
abbrev cX4_shareAlsoWith : ByteArray := prog_6_method_7_code
def yX4_shareAlsoWith : MethodName := ⟨RX4, "shareAlsoWith", "(I)V"⟩
abbrev cX4_tellWay : ByteArray := prog_6_method_8_code
def yX4_tellWay : MethodName := ⟨RX4, "tellWay", "([LGlassValley$Family;[LGlassValley$ShipOrder;LGlassValley$Rights;I)V"⟩
abbrev cX4_tellOrder : ByteArray := prog_6_method_9_code
def yX4_tellOrder : MethodName := ⟨RX4, "tellOrder", "(LGlassValley$ShipOrder;LGlassValley$Family;LGlassValley$Rights;I)V"⟩
def RX5 : String := "GlassValley$Rights"
def TX5 : u_T := fun k => match k with
  | 0 => ("GlassValley$Rights", "owner", "[I", true)
  | 1 => ("GlassValley$Rights", "lentUntil", "[[I", true)
  | _ => ("GlassValley$Rights", "barred", "[J", true)
def tyX5 : Nat → FieldType := fun k => match k with
  | 0 => .array .int
  | 1 => .array (.array .int)
  | _ => .array .long
theorem nmX5 : ∀ a, a < 3 → ∀ b, b < 3 → a ≠ b → (TX5 a).2.1 ≠ (TX5 b).2.1 := by decide +kernel
theorem tyX5_ok : ∀ k, k < 3 → parseFieldDescriptor (TX5 k).2.2.1 = some (tyX5 k) := by decide +kernel
abbrev cX5_init : ByteArray := prog_7_method_1_code
def yX5_init : MethodName := ⟨RX5, "<init>", "()V"⟩
abbrev cX5_forget : ByteArray := prog_7_method_2_code
def yX5_forget : MethodName := ⟨RX5, "forget", "()V"⟩
abbrev cX5_give : ByteArray := prog_7_method_3_code
def yX5_give : MethodName := ⟨RX5, "give", "(II)V"⟩
abbrev cX5_share : ByteArray := prog_7_method_4_code
def yX5_share : MethodName := ⟨RX5, "share", "(III)V"⟩
abbrev cX5_shut : ByteArray := prog_7_method_5_code
def yX5_shut : MethodName := ⟨RX5, "shut", "(III)V"⟩
abbrev cX5_allow : ByteArray := prog_7_method_6_code
def yX5_allow : MethodName := ⟨RX5, "allow", "(III)Z"⟩
def RX6 : String := "GlassValley$ShipOrder"
def TX6 : u_T := fun k => match k with
  | 0 => ("GlassValley$ShipOrder", "number", "I", true)
  | 1 => ("GlassValley$ShipOrder", "pattern", "I", false)
  | 2 => ("GlassValley$ShipOrder", "gross", "I", false)
  | 3 => ("GlassValley$ShipOrder", "due", "I", false)
  | 4 => ("GlassValley$ShipOrder", "price", "I", false)
  | 5 => ("GlassValley$ShipOrder", "made", "I", false)
  | 6 => ("GlassValley$ShipOrder", "hours", "I", false)
  | 7 => ("GlassValley$ShipOrder", "silver", "I", false)
  | 8 => ("GlassValley$ShipOrder", "state", "I", false)
  | 9 => ("GlassValley$ShipOrder", "worked", "I", false)
  | _ => ("GlassValley$ShipOrder", "workedBy", "I", false)
def tyX6 : Nat → FieldType := fun k => match k with
  | 0 => .int
  | 1 => .int
  | 2 => .int
  | 3 => .int
  | 4 => .int
  | 5 => .int
  | 6 => .int
  | 7 => .int
  | 8 => .int
  | 9 => .int
  | _ => .int
theorem nmX6 : ∀ a, a < 11 → ∀ b, b < 11 → a ≠ b → (TX6 a).2.1 ≠ (TX6 b).2.1 := by decide +kernel
theorem tyX6_ok : ∀ k, k < 11 → parseFieldDescriptor (TX6 k).2.2.1 = some (tyX6 k) := by decide +kernel
abbrev cX6_init : ByteArray := prog_8_method_1_code
def yX6_init : MethodName := ⟨RX6, "<init>", "(I)V"⟩
abbrev cX6_reckonAnew : ByteArray := prog_8_method_2_code
def yX6_reckonAnew : MethodName := ⟨RX6, "reckonAnew", "(LGlassValley$Pattern;)V"⟩
abbrev cX6_hoursLeftFor : ByteArray := prog_8_method_3_code
def yX6_hoursLeftFor : MethodName := ⟨RX6, "hoursLeftFor", "(I)I"⟩
abbrev cX6_workBy : ByteArray := prog_8_method_4_code
def yX6_workBy : MethodName := ⟨RX6, "workBy", "(II)V"⟩
def RX7 : String := "GlassValley$Tape"
def TX7 : u_T := fun k => match k with
  | 0 => ("GlassValley$Tape", "length", "I", false)
  | 1 => ("GlassValley$Tape", "token", "I", false)
  | 2 => ("GlassValley$Tape", "place", "I", false)
  | 3 => ("GlassValley$Tape", "value", "I", false)
  | 4 => ("GlassValley$Tape", "bytes", "[B", true)
  | _ => ("GlassValley$Tape", "next", "I", false)
def tyX7 : Nat → FieldType := fun k => match k with
  | 0 => .int
  | 1 => .int
  | 2 => .int
  | 3 => .int
  | 4 => .array .byte
  | _ => .int
theorem nmX7 : ∀ a, a < 6 → ∀ b, b < 6 → a ≠ b → (TX7 a).2.1 ≠ (TX7 b).2.1 := by decide +kernel
theorem tyX7_ok : ∀ k, k < 6 → parseFieldDescriptor (TX7 k).2.2.1 = some (tyX7 k) := by decide +kernel
abbrev cX7_init : ByteArray := prog_9_method_1_code
def yX7_init : MethodName := ⟨RX7, "<init>", "()V"⟩
abbrev cX7_put : ByteArray := prog_9_method_2_code
def yX7_put : MethodName := ⟨RX7, "put", "(I)V"⟩
abbrev cX7_rewind : ByteArray := prog_9_method_3_code
def yX7_rewind : MethodName := ⟨RX7, "rewind", "()V"⟩
abbrev cX7_readToken : ByteArray := prog_9_method_4_code
def yX7_readToken : MethodName := ⟨RX7, "readToken", "()V"⟩
abbrev cX7_skipBlanks : ByteArray := prog_9_method_5_code
def yX7_skipBlanks : MethodName := ⟨RX7, "skipBlanks", "()V"⟩
abbrev cX7_readWord : ByteArray := prog_9_method_6_code
def yX7_readWord : MethodName := ⟨RX7, "readWord", "()V"⟩
abbrev cX7_readNumber : ByteArray := prog_9_method_7_code
def yX7_readNumber : MethodName := ⟨RX7, "readNumber", "()V"⟩
abbrev cX7_keyword : ByteArray := prog_9_method_8_code
def yX7_keyword : MethodName := ⟨RX7, "keyword", "()I"⟩
abbrev cX7_isWord : ByteArray := prog_9_method_9_code
def yX7_isWord : MethodName := ⟨RX7, "isWord", "(Ljava/lang/String;)Z"⟩
abbrev cX7_isLetter : ByteArray := prog_9_method_10_code
def yX7_isLetter : MethodName := ⟨RX7, "isLetter", "(B)Z"⟩
abbrev cX7_isDigit : ByteArray := prog_9_method_11_code
def yX7_isDigit : MethodName := ⟨RX7, "isDigit", "(B)Z"⟩
def RX8 : String := "GlassValley"
def TX8 : u_T := fun k => match k with
  | 0 => ("GlassValley", "families", "[LGlassValley$Family;", true)
  | 1 => ("GlassValley", "patterns", "[LGlassValley$Pattern;", true)
  | 2 => ("GlassValley", "orders", "[LGlassValley$ShipOrder;", true)
  | 3 => ("GlassValley", "reader", "LGlassValley$CustomReader;", true)
  | 4 => ("GlassValley", "plan", "LGlassValley$Plan;", true)
  | 5 => ("GlassValley", "rights", "LGlassValley$Rights;", false)
  | 6 => ("GlassValley", "spareRights", "LGlassValley$Rights;", false)
  | 7 => ("GlassValley", "planned", "Z", false)
  | 8 => ("GlassValley", "week", "I", false)
  | 9 => ("GlassValley", "came", "I", false)
  | _ => ("GlassValley", "earned", "I", false)
def tyX8 : Nat → FieldType := fun k => match k with
  | 0 => .array (.object "GlassValley$Family")
  | 1 => .array (.object "GlassValley$Pattern")
  | 2 => .array (.object "GlassValley$ShipOrder")
  | 3 => .object "GlassValley$CustomReader"
  | 4 => .object "GlassValley$Plan"
  | 5 => .object "GlassValley$Rights"
  | 6 => .object "GlassValley$Rights"
  | 7 => .boolean
  | 8 => .int
  | 9 => .int
  | _ => .int
theorem nmX8 : ∀ a, a < 11 → ∀ b, b < 11 → a ≠ b → (TX8 a).2.1 ≠ (TX8 b).2.1 := by decide +kernel
theorem tyX8_ok : ∀ k, k < 11 → parseFieldDescriptor (TX8 k).2.2.1 = some (tyX8 k) := by decide +kernel
abbrev cX8_init : ByteArray := prog_1_method_1_code
def yX8_init : MethodName := ⟨RX8, "<init>", "()V"⟩
abbrev cX8_hours : ByteArray := prog_1_method_2_code
def yX8_hours : MethodName := ⟨RX8, "hours", "(III)Z"⟩
abbrev cX8_pattern : ByteArray := prog_1_method_3_code
def yX8_pattern : MethodName := ⟨RX8, "pattern", "(IIII)Z"⟩
abbrev cX8_lend : ByteArray := prog_1_method_4_code
def yX8_lend : MethodName := ⟨RX8, "lend", "(II)Z"⟩
abbrev cX8_bring : ByteArray := prog_1_method_5_code
def yX8_bring : MethodName := ⟨RX8, "bring", "(I)I"⟩
abbrev cX8_order : ByteArray := prog_1_method_6_code
def yX8_order : MethodName := ⟨RX8, "order", "(IIII)I"⟩
abbrev cX8_drop : ByteArray := prog_1_method_7_code
def yX8_drop : MethodName := ⟨RX8, "drop", "(I)Z"⟩
abbrev cX8_feed : ByteArray := prog_1_method_8_code
def yX8_feed : MethodName := ⟨RX8, "feed", "(IIIII)I"⟩
abbrev cX8_end : ByteArray := prog_1_method_9_code
def yX8_end : MethodName := ⟨RX8, "end", "(I)Z"⟩
abbrev cX8_custom : ByteArray := prog_1_method_10_code
def yX8_custom : MethodName := ⟨RX8, "custom", "()I"⟩
abbrev cX8_fault : ByteArray := prog_1_method_11_code
def yX8_fault : MethodName := ⟨RX8, "fault", "(I)I"⟩
abbrev cX8_may : ByteArray := prog_1_method_12_code
def yX8_may : MethodName := ⟨RX8, "may", "(III)I"⟩
abbrev cX8_look : ByteArray := prog_1_method_13_code
def yX8_look : MethodName := ⟨RX8, "look", "(I)I"⟩
abbrev cX8_of : ByteArray := prog_1_method_14_code
def yX8_of : MethodName := ⟨RX8, "of", "(II)I"⟩
abbrev cX8_best : ByteArray := prog_1_method_15_code
def yX8_best : MethodName := ⟨RX8, "best", "(I)I"⟩
abbrev cX8_work : ByteArray := prog_1_method_16_code
def yX8_work : MethodName := ⟨RX8, "work", "()I"⟩
abbrev cX8_workAsPlanned : ByteArray := prog_1_method_17_code
def yX8_workAsPlanned : MethodName := ⟨RX8, "workAsPlanned", "(LGlassValley$ShipOrder;)V"⟩
abbrev cX8_bringPlanUpToDate : ByteArray := prog_1_method_18_code
def yX8_bringPlanUpToDate : MethodName := ⟨RX8, "bringPlanUpToDate", "()V"⟩
abbrev cX8_countOrders : ByteArray := prog_1_method_19_code
def yX8_countOrders : MethodName := ⟨RX8, "countOrders", "(I)I"⟩
abbrev cX8_isOrder : ByteArray := prog_1_method_20_code
def yX8_isOrder : MethodName := ⟨RX8, "isOrder", "(I)Z"⟩
abbrev cX8_isWeekToCome : ByteArray := prog_1_method_21_code
def yX8_isWeekToCome : MethodName := ⟨RX8, "isWeekToCome", "(I)Z"⟩
abbrev cX8_isFamily : ByteArray := prog_1_method_22_code
def yX8_isFamily : MethodName := ⟨RX8, "isFamily", "(I)Z"⟩
abbrev cX8_isPattern : ByteArray := prog_1_method_23_code
def yX8_isPattern : MethodName := ⟨RX8, "isPattern", "(I)Z"⟩
abbrev cX8_isWithin : ByteArray := prog_1_method_24_code
def yX8_isWithin : MethodName := ⟨RX8, "isWithin", "(III)Z"⟩
def RX9 : String := "GlassValleyModel"
def TX9 : u_T := fun k => match k with
  | 0 => ("GlassValleyModel", "now", "I", false)
  | 1 => ("GlassValleyModel", "orders", "I", false)
  | 2 => ("GlassValleyModel", "earned", "I", false)
  | 3 => ("GlassValleyModel", "hour", "[I", true)
  | 4 => ("GlassValleyModel", "silver", "[I", true)
  | 5 => ("GlassValleyModel", "used", "[I", true)
  | 6 => ("GlassValleyModel", "takes", "[I", true)
  | 7 => ("GlassValleyModel", "needs", "[I", true)
  | 8 => ("GlassValleyModel", "breaks", "[I", true)
  | 9 => ("GlassValleyModel", "pattern", "[I", true)
  | 10 => ("GlassValleyModel", "gross", "[I", true)
  | 11 => ("GlassValleyModel", "due", "[I", true)
  | 12 => ("GlassValleyModel", "price", "[I", true)
  | 13 => ("GlassValleyModel", "made", "[I", true)
  | 14 => ("GlassValleyModel", "work", "[I", true)
  | 15 => ("GlassValleyModel", "metal", "[I", true)
  | 16 => ("GlassValleyModel", "state", "[I", true)
  | 17 => ("GlassValleyModel", "worked", "[I", true)
  | 18 => ("GlassValleyModel", "by", "[I", true)
  | 19 => ("GlassValleyModel", "owner", "[I", true)
  | 20 => ("GlassValleyModel", "lentTo", "[I", true)
  | 21 => ("GlassValleyModel", "barred", "[Z", true)
  | 22 => ("GlassValleyModel", "tape", "[I", true)
  | 23 => ("GlassValleyModel", "line", "[I", true)
  | 24 => ("GlassValleyModel", "taped", "I", false)
  | 25 => ("GlassValleyModel", "at", "I", false)
  | 26 => ("GlassValleyModel", "token", "I", false)
  | 27 => ("GlassValleyModel", "tokenAt", "I", false)
  | 28 => ("GlassValleyModel", "value", "I", false)
  | 29 => ("GlassValleyModel", "wrong", "I", false)
  | 30 => ("GlassValleyModel", "wrongAt", "I", false)
  | 31 => ("GlassValleyModel", "faultKind", "I", false)
  | 32 => ("GlassValleyModel", "lines", "I", false)
  | 33 => ("GlassValleyModel", "number", "I", false)
  | 34 => ("GlassValleyModel", "faultPlace", "I", false)
  | 35 => ("GlassValleyModel", "row", "[I", true)
  | 36 => ("GlassValleyModel", "many", "I", false)
  | 37 => ("GlassValleyModel", "over", "[I", true)
  | 38 => ("GlassValleyModel", "can", "[Z", true)
  | 39 => ("GlassValleyModel", "given", "[I", true)
  | 40 => ("GlassValleyModel", "best", "[I", true)
  | 41 => ("GlassValleyModel", "sets", "[I", true)
  | 42 => ("GlassValleyModel", "bestSum", "I", false)
  | _ => ("GlassValleyModel", "bestWork", "I", false)
def tyX9 : Nat → FieldType := fun k => match k with
  | 0 => .int
  | 1 => .int
  | 2 => .int
  | 3 => .array .int
  | 4 => .array .int
  | 5 => .array .int
  | 6 => .array .int
  | 7 => .array .int
  | 8 => .array .int
  | 9 => .array .int
  | 10 => .array .int
  | 11 => .array .int
  | 12 => .array .int
  | 13 => .array .int
  | 14 => .array .int
  | 15 => .array .int
  | 16 => .array .int
  | 17 => .array .int
  | 18 => .array .int
  | 19 => .array .int
  | 20 => .array .int
  | 21 => .array .boolean
  | 22 => .array .int
  | 23 => .array .int
  | 24 => .int
  | 25 => .int
  | 26 => .int
  | 27 => .int
  | 28 => .int
  | 29 => .int
  | 30 => .int
  | 31 => .int
  | 32 => .int
  | 33 => .int
  | 34 => .int
  | 35 => .array .int
  | 36 => .int
  | 37 => .array .int
  | 38 => .array .boolean
  | 39 => .array .int
  | 40 => .array .int
  | 41 => .array .int
  | 42 => .int
  | _ => .int
theorem nmX9 : ∀ a, a < 44 → ∀ b, b < 44 → a ≠ b → (TX9 a).2.1 ≠ (TX9 b).2.1 := by decide +kernel
theorem tyX9_ok : ∀ k, k < 44 → parseFieldDescriptor (TX9 k).2.2.1 = some (tyX9 k) := by decide +kernel
abbrev cX9_init : ByteArray := prog_11_method_1_code
def yX9_init : MethodName := ⟨RX9, "<init>", "()V"⟩
abbrev cX9_isIn : ByteArray := prog_11_method_2_code
def yX9_isIn : MethodName := ⟨RX9, "isIn", "(III)Z"⟩
abbrev cX9_isFamily : ByteArray := prog_11_method_3_code
def yX9_isFamily : MethodName := ⟨RX9, "isFamily", "(I)Z"⟩
abbrev cX9_isPattern : ByteArray := prog_11_method_4_code
def yX9_isPattern : MethodName := ⟨RX9, "isPattern", "(I)Z"⟩
abbrev cX9_isWeek : ByteArray := prog_11_method_5_code
def yX9_isWeek : MethodName := ⟨RX9, "isWeek", "(II)Z"⟩
abbrev cX9_hours : ByteArray := prog_11_method_6_code
def yX9_hours : MethodName := ⟨RX9, "hours", "(III)Z"⟩
abbrev cX9_counts : ByteArray := prog_11_method_7_code
def yX9_counts : MethodName := ⟨RX9, "counts", "(I)V"⟩
abbrev cX9_isOpen : ByteArray := prog_11_method_8_code
def yX9_isOpen : MethodName := ⟨RX9, "isOpen", "(I)Z"⟩
abbrev cX9_pattern : ByteArray := prog_11_method_9_code
def yX9_pattern : MethodName := ⟨RX9, "pattern", "(IIII)Z"⟩
abbrev cX9_lend : ByteArray := prog_11_method_10_code
def yX9_lend : MethodName := ⟨RX9, "lend", "(II)Z"⟩
abbrev cX9_bring : ByteArray := prog_11_method_11_code
def yX9_bring : MethodName := ⟨RX9, "bring", "(I)I"⟩
abbrev cX9_order : ByteArray := prog_11_method_12_code
def yX9_order : MethodName := ⟨RX9, "order", "(IIII)I"⟩
abbrev cX9_drop : ByteArray := prog_11_method_13_code
def yX9_drop : MethodName := ⟨RX9, "drop", "(I)Z"⟩
abbrev cX9_feed : ByteArray := prog_11_method_14_code
def yX9_feed : MethodName := ⟨RX9, "feed", "(IIIII)I"⟩
abbrev cX9_end : ByteArray := prog_11_method_15_code
def yX9_end : MethodName := ⟨RX9, "end", "(I)Z"⟩
abbrev cX9_see : ByteArray := prog_11_method_16_code
def yX9_see : MethodName := ⟨RX9, "see", "(I)I"⟩
abbrev cX9_isLetter : ByteArray := prog_11_method_17_code
def yX9_isLetter : MethodName := ⟨RX9, "isLetter", "(I)Z"⟩
abbrev cX9_isDigit : ByteArray := prog_11_method_18_code
def yX9_isDigit : MethodName := ⟨RX9, "isDigit", "(I)Z"⟩
abbrev cX9_word : ByteArray := prog_11_method_19_code
def yX9_word : MethodName := ⟨RX9, "word", "(J)I"⟩
abbrev cX9_next0 : ByteArray := prog_11_method_20_code
def yX9_next0 : MethodName := ⟨RX9, "next0", "()V"⟩
abbrev cX9_bad : ByteArray := prog_11_method_21_code
def yX9_bad : MethodName := ⟨RX9, "bad", "(I)Z"⟩
abbrev cX9_need : ByteArray := prog_11_method_22_code
def yX9_need : MethodName := ⟨RX9, "need", "(I)Z"⟩
abbrev cX9_aNumber : ByteArray := prog_11_method_23_code
def yX9_aNumber : MethodName := ⟨RX9, "aNumber", "(II)Z"⟩
abbrev cX9_aLine : ByteArray := prog_11_method_24_code
def yX9_aLine : MethodName := ⟨RX9, "aLine", "()Z"⟩
abbrev cX9_tells : ByteArray := prog_11_method_25_code
def yX9_tells : MethodName := ⟨RX9, "tells", "(I)V"⟩
abbrev cX9_custom : ByteArray := prog_11_method_26_code
def yX9_custom : MethodName := ⟨RX9, "custom", "()I"⟩
abbrev cX9_fault : ByteArray := prog_11_method_27_code
def yX9_fault : MethodName := ⟨RX9, "fault", "(I)I"⟩
abbrev cX9_isAllowed : ByteArray := prog_11_method_28_code
def yX9_isAllowed : MethodName := ⟨RX9, "isAllowed", "(III)Z"⟩
abbrev cX9_may : ByteArray := prog_11_method_29_code
def yX9_may : MethodName := ⟨RX9, "may", "(III)I"⟩
abbrev cX9_left : ByteArray := prog_11_method_30_code
def yX9_left : MethodName := ⟨RX9, "left", "(II)I"⟩
abbrev cX9_sorts : ByteArray := prog_11_method_31_code
def yX9_sorts : MethodName := ⟨RX9, "sorts", "(I)V"⟩
abbrev cX9_does : ByteArray := prog_11_method_32_code
def yX9_does : MethodName := ⟨RX9, "does", "(II)Z"⟩
abbrev cX9_canAll : ByteArray := prog_11_method_33_code
def yX9_canAll : MethodName := ⟨RX9, "canAll", "()Z"⟩
abbrev cX9_tries : ByteArray := prog_11_method_34_code
def yX9_tries : MethodName := ⟨RX9, "tries", "(III)V"⟩
abbrev cX9_finds : ByteArray := prog_11_method_35_code
def yX9_finds : MethodName := ⟨RX9, "finds", "()V"⟩
abbrev cX9_look : ByteArray := prog_11_method_36_code
def yX9_look : MethodName := ⟨RX9, "look", "(I)I"⟩
abbrev cX9_of : ByteArray := prog_11_method_37_code
def yX9_of : MethodName := ⟨RX9, "of", "(II)I"⟩
abbrev cX9_setOf : ByteArray := prog_11_method_38_code
def yX9_setOf : MethodName := ⟨RX9, "setOf", "(I)I"⟩
abbrev cX9_best : ByteArray := prog_11_method_39_code
def yX9_best : MethodName := ⟨RX9, "best", "(I)I"⟩
abbrev cX9_works : ByteArray := prog_11_method_40_code
def yX9_works : MethodName := ⟨RX9, "works", "(I)V"⟩
abbrev cX9_work : ByteArray := prog_11_method_41_code
def yX9_work : MethodName := ⟨RX9, "work", "()I"⟩
def RJ9 : String := "java/lang/Math"
def TJ9 : u_T := fun k => match k with
  | _ => ("", "", "", false)
def tyJ9 : Nat → FieldType := fun k => match k with
  | _ => .int
theorem nmJ9 : ∀ a, a < 0 → ∀ b, b < 0 → a ≠ b → (TJ9 a).2.1 ≠ (TJ9 b).2.1 := by decide +kernel
theorem tyJ9_ok : ∀ k, k < 0 → parseFieldDescriptor (TJ9 k).2.2.1 = some (tyJ9 k) := by decide +kernel
abbrev cJ9_max_7cf53 : ByteArray := prog_12_method_65_code
def yJ9_max_7cf53 : MethodName := ⟨RJ9, "max", "(II)I"⟩
abbrev cJ9_min_7cf53 : ByteArray := prog_12_method_69_code
def yJ9_min_7cf53 : MethodName := ⟨RJ9, "min", "(II)I"⟩
def RJ0 : String := "java/lang/String"
def TJ0 : u_T := fun k => match k with
  | _ => ("", "", "", false)
def tyJ0 : Nat → FieldType := fun k => match k with
  | _ => .int
theorem nmJ0 : ∀ a, a < 0 → ∀ b, b < 0 → a ≠ b → (TJ0 a).2.1 ≠ (TJ0 b).2.1 := by decide +kernel
theorem tyJ0_ok : ∀ k, k < 0 → parseFieldDescriptor (TJ0 k).2.2.1 = some (tyJ0 k) := by decide +kernel
abbrev cJ0_length_8abf5 : ByteArray := prog_13_method_54_code
def yJ0_length_8abf5 : MethodName := ⟨RJ0, "length", "()I"⟩
abbrev cJ0_charAt_5068e : ByteArray := prog_13_method_56_code
def yJ0_charAt_5068e : MethodName := ⟨RJ0, "charAt", "(I)C"⟩
abbrev cJ0_coder_7d493 : ByteArray := prog_13_method_152_code
def yJ0_coder_7d493 : MethodName := ⟨RJ0, "coder", "()B"⟩
abbrev cJ0_isLatin1_aae02 : ByteArray := prog_13_method_154_code
def yJ0_isLatin1_aae02 : MethodName := ⟨RJ0, "isLatin1", "()Z"⟩
abbrev cJ0_checkIndex_df160 : ByteArray := prog_13_method_155_code
def yJ0_checkIndex_df160 : MethodName := ⟨RJ0, "checkIndex", "(II)V"⟩
def RJ1 : String := "java/lang/StringLatin1"
def TJ1 : u_T := fun k => match k with
  | _ => ("", "", "", false)
def tyJ1 : Nat → FieldType := fun k => match k with
  | _ => .int
theorem nmJ1 : ∀ a, a < 0 → ∀ b, b < 0 → a ≠ b → (TJ1 a).2.1 ≠ (TJ1 b).2.1 := by decide +kernel
theorem tyJ1_ok : ∀ k, k < 0 → parseFieldDescriptor (TJ1 k).2.2.1 = some (tyJ1 k) := by decide +kernel
abbrev cJ1_charAt_3b067 : ByteArray := prog_14_method_2_code
def yJ1_charAt_3b067 : MethodName := ⟨RJ1, "charAt", "([BI)C"⟩
def RJ2 : String := "java/lang/StringUTF16"
def TJ2 : u_T := fun k => match k with
  | _ => ("", "", "", false)
def tyJ2 : Nat → FieldType := fun k => match k with
  | _ => .int
theorem nmJ2 : ∀ a, a < 0 → ∀ b, b < 0 → a ≠ b → (TJ2 a).2.1 ≠ (TJ2 b).2.1 := by decide +kernel
theorem tyJ2_ok : ∀ k, k < 0 → parseFieldDescriptor (TJ2 k).2.2.1 = some (tyJ2 k) := by decide +kernel
abbrev cJ2_getChar_3b067 : ByteArray := prog_15_method_5_code
def yJ2_getChar_3b067 : MethodName := ⟨RJ2, "getChar", "([BI)C"⟩
abbrev cJ2_length_9d52b : ByteArray := prog_15_method_6_code
def yJ2_length_9d52b : MethodName := ⟨RJ2, "length", "([B)I"⟩
abbrev cJ2_charAt_3b067 : ByteArray := prog_15_method_83_code
def yJ2_charAt_3b067 : MethodName := ⟨RJ2, "charAt", "([BI)C"⟩
abbrev cJ2_checkIndex_2214a : ByteArray := prog_15_method_91_code
def yJ2_checkIndex_2214a : MethodName := ⟨RJ2, "checkIndex", "(I[B)V"⟩
def RJ3 : String := "jdk/internal/util/Preconditions"
def TJ3 : u_T := fun k => match k with
  | _ => ("", "", "", false)
def tyJ3 : Nat → FieldType := fun k => match k with
  | _ => .int
theorem nmJ3 : ∀ a, a < 0 → ∀ b, b < 0 → a ≠ b → (TJ3 a).2.1 ≠ (TJ3 b).2.1 := by decide +kernel
theorem tyJ3_ok : ∀ k, k < 0 → parseFieldDescriptor (TJ3 k).2.2.1 = some (tyJ3 k) := by decide +kernel
abbrev cJ3_checkIndex_8e157 : ByteArray := prog_16_method_11_code
def yJ3_checkIndex_8e157 : MethodName := ⟨RJ3, "checkIndex", "(IILjava/util/function/BiFunction;)I"⟩
def RL : String := "GlassValleyLaw"
abbrev cL_law : ByteArray := code
def yL_law : MethodName := ⟨RL, "law", "([I)Z"⟩
abbrev vwCl : List vw_C := [(RX0, TX0, 2), (RX1, TX1, 5), (RX2, TX2, 4), (RX3, TX3, 3), (RX4, TX4, 15), (RX5, TX5, 3), (RX6, TX6, 11), (RX7, TX7, 6), (RX8, TX8, 11), (RX9, TX9, 44)]
end
section
theorem dX0_init_0 : decode cX0_init 0 = .ok (.aload_n 0, 1) := by decide +kernel
theorem dX0_init_1 : decode cX0_init 1 = .ok (.invokespecial 1, 3) := by decide +kernel
theorem dX0_init_4 : decode cX0_init 4 = .ok (.return_, 1) := by decide +kernel
theorem dX0_lay_0 : decode cX0_lay 0 = .ok (.aload_n 1, 1) := by decide +kernel
theorem dX0_lay_1 : decode cX0_lay 1 = .ok (.aload_n 2, 1) := by decide +kernel
theorem dX0_lay_2 : decode cX0_lay 2 = .ok (.getfield 7, 3) := by decide +kernel
theorem dX0_lay_5 : decode cX0_lay 5 = .ok (.invokevirtual 13, 3) := by decide +kernel
theorem dX0_lay_8 : decode cX0_lay 8 = .ok (.istore 4, 2) := by decide +kernel
theorem dX0_lay_10 : decode cX0_lay 10 = .ok (.iconst 0, 1) := by decide +kernel
theorem dX0_lay_11 : decode cX0_lay 11 = .ok (.istore 5, 2) := by decide +kernel
theorem dX0_lay_13 : decode cX0_lay 13 = .ok (.aload_n 0, 1) := by decide +kernel
theorem dX0_lay_14 : decode cX0_lay 14 = .ok (.getfield 19, 3) := by decide +kernel
theorem dX0_lay_17 : decode cX0_lay 17 = .ok (.istore 6, 2) := by decide +kernel
theorem dX0_lay_19 : decode cX0_lay 19 = .ok (.iload 6, 2) := by decide +kernel
theorem dX0_lay_21 : decode cX0_lay 21 = .ok (.aload_n 1, 1) := by decide +kernel
theorem dX0_lay_22 : decode cX0_lay 22 = .ok (.getfield 24, 3) := by decide +kernel
theorem dX0_lay_25 : decode cX0_lay 25 = .ok (.if_icmp .gt 106, 3) := by decide +kernel
theorem dX0_lay_28 : decode cX0_lay 28 = .ok (.iload 6, 2) := by decide +kernel
theorem dX0_lay_30 : decode cX0_lay 30 = .ok (.aload_n 0, 1) := by decide +kernel
theorem dX0_lay_31 : decode cX0_lay 31 = .ok (.getfield 19, 3) := by decide +kernel
theorem dX0_lay_34 : decode cX0_lay 34 = .ok (.if_icmp .ne 10, 3) := by decide +kernel
theorem dX0_lay_37 : decode cX0_lay 37 = .ok (.aload_n 0, 1) := by decide +kernel
theorem dX0_lay_38 : decode cX0_lay 38 = .ok (.getfield 27, 3) := by decide +kernel
theorem dX0_lay_41 : decode cX0_lay 41 = .ok (.goto 10, 3) := by decide +kernel
theorem dX0_lay_44 : decode cX0_lay 44 = .ok (.aload_n 2, 1) := by decide +kernel
theorem dX0_lay_45 : decode cX0_lay 45 = .ok (.getfield 30, 3) := by decide +kernel
theorem dX0_lay_48 : decode cX0_lay 48 = .ok (.iload 6, 2) := by decide +kernel
theorem dX0_lay_50 : decode cX0_lay 50 = .ok (.iaload, 1) := by decide +kernel
theorem dX0_lay_51 : decode cX0_lay 51 = .ok (.istore 7, 2) := by decide +kernel
theorem dX0_lay_53 : decode cX0_lay 53 = .ok (.iload 5, 2) := by decide +kernel
theorem dX0_lay_55 : decode cX0_lay 55 = .ok (.ifCond .ne 8, 3) := by decide +kernel
theorem dX0_lay_58 : decode cX0_lay 58 = .ok (.iload 7, 2) := by decide +kernel
theorem dX0_lay_60 : decode cX0_lay 60 = .ok (.ifCond .le 7, 3) := by decide +kernel
theorem dX0_lay_63 : decode cX0_lay 63 = .ok (.iconst 1, 1) := by decide +kernel
theorem dX0_lay_64 : decode cX0_lay 64 = .ok (.goto 4, 3) := by decide +kernel
theorem dX0_lay_67 : decode cX0_lay 67 = .ok (.iconst 0, 1) := by decide +kernel
theorem dX0_lay_68 : decode cX0_lay 68 = .ok (.istore 5, 2) := by decide +kernel
theorem dX0_lay_70 : decode cX0_lay 70 = .ok (.iload 5, 2) := by decide +kernel
theorem dX0_lay_72 : decode cX0_lay 72 = .ok (.ifCond .eq 22, 3) := by decide +kernel
theorem dX0_lay_75 : decode cX0_lay 75 = .ok (.aload_n 3, 1) := by decide +kernel
theorem dX0_lay_76 : decode cX0_lay 76 = .ok (.aload_n 2, 1) := by decide +kernel
theorem dX0_lay_77 : decode cX0_lay 77 = .ok (.getfield 7, 3) := by decide +kernel
theorem dX0_lay_80 : decode cX0_lay 80 = .ok (.aload_n 1, 1) := by decide +kernel
theorem dX0_lay_81 : decode cX0_lay 81 = .ok (.getfield 34, 3) := by decide +kernel
theorem dX0_lay_84 : decode cX0_lay 84 = .ok (.iload 6, 2) := by decide +kernel
theorem dX0_lay_86 : decode cX0_lay 86 = .ok (.invokevirtual 37, 3) := by decide +kernel
theorem dX0_lay_89 : decode cX0_lay 89 = .ok (.ifCond .ne 5, 3) := by decide +kernel
theorem dX0_lay_92 : decode cX0_lay 92 = .ok (.iconst 0, 1) := by decide +kernel
theorem dX0_lay_93 : decode cX0_lay 93 = .ok (.ireturn, 1) := by decide +kernel
theorem dX0_lay_94 : decode cX0_lay 94 = .ok (.iload 4, 2) := by decide +kernel
theorem dX0_lay_96 : decode cX0_lay 96 = .ok (.iload 7, 2) := by decide +kernel
theorem dX0_lay_98 : decode cX0_lay 98 = .ok (.if_icmp .gt 20, 3) := by decide +kernel
theorem dX0_lay_101 : decode cX0_lay 101 = .ok (.aload_n 0, 1) := by decide +kernel
theorem dX0_lay_102 : decode cX0_lay 102 = .ok (.iload 6, 2) := by decide +kernel
theorem dX0_lay_104 : decode cX0_lay 104 = .ok (.putfield 19, 3) := by decide +kernel
theorem dX0_lay_107 : decode cX0_lay 107 = .ok (.aload_n 0, 1) := by decide +kernel
theorem dX0_lay_108 : decode cX0_lay 108 = .ok (.iload 7, 2) := by decide +kernel
theorem dX0_lay_110 : decode cX0_lay 110 = .ok (.iload 4, 2) := by decide +kernel
theorem dX0_lay_112 : decode cX0_lay 112 = .ok (.isub, 1) := by decide +kernel
theorem dX0_lay_113 : decode cX0_lay 113 = .ok (.putfield 27, 3) := by decide +kernel
theorem dX0_lay_116 : decode cX0_lay 116 = .ok (.iconst 1, 1) := by decide +kernel
theorem dX0_lay_117 : decode cX0_lay 117 = .ok (.ireturn, 1) := by decide +kernel
theorem dX0_lay_118 : decode cX0_lay 118 = .ok (.iload 4, 2) := by decide +kernel
theorem dX0_lay_120 : decode cX0_lay 120 = .ok (.iload 7, 2) := by decide +kernel
theorem dX0_lay_122 : decode cX0_lay 122 = .ok (.isub, 1) := by decide +kernel
theorem dX0_lay_123 : decode cX0_lay 123 = .ok (.istore 4, 2) := by decide +kernel
theorem dX0_lay_125 : decode cX0_lay 125 = .ok (.iinc 6 1, 3) := by decide +kernel
theorem dX0_lay_128 : decode cX0_lay 128 = .ok (.goto (-109), 3) := by decide +kernel
theorem dX0_lay_131 : decode cX0_lay 131 = .ok (.iconst 0, 1) := by decide +kernel
theorem dX0_lay_132 : decode cX0_lay 132 = .ok (.ireturn, 1) := by decide +kernel
theorem dX1_init_0 : decode cX1_init 0 = .ok (.aload_n 0, 1) := by decide +kernel
theorem dX1_init_1 : decode cX1_init 1 = .ok (.invokespecial 3, 3) := by decide +kernel
theorem dX1_init_4 : decode cX1_init 4 = .ok (.aload_n 0, 1) := by decide +kernel
theorem dX1_init_5 : decode cX1_init 5 = .ok (.new 9, 3) := by decide +kernel
theorem dX1_init_8 : decode cX1_init 8 = .ok (.dup, 1) := by decide +kernel
theorem dX1_init_9 : decode cX1_init 9 = .ok (.invokespecial 11, 3) := by decide +kernel
theorem dX1_init_12 : decode cX1_init 12 = .ok (.putfield 12, 3) := by decide +kernel
theorem dX1_init_15 : decode cX1_init 15 = .ok (.aload_n 0, 1) := by decide +kernel
theorem dX1_init_16 : decode cX1_init 16 = .ok (.iconst (-1), 1) := by decide +kernel
theorem dX1_init_17 : decode cX1_init 17 = .ok (.putfield 18, 3) := by decide +kernel
theorem dX1_init_20 : decode cX1_init 20 = .ok (.aload_n 0, 1) := by decide +kernel
theorem dX1_init_21 : decode cX1_init 21 = .ok (.iconst 3, 1) := by decide +kernel
theorem dX1_init_22 : decode cX1_init 22 = .ok (.newarray .int, 2) := by decide +kernel
theorem dX1_init_24 : decode cX1_init 24 = .ok (.putfield 22, 3) := by decide +kernel
theorem dX1_init_27 : decode cX1_init 27 = .ok (.return_, 1) := by decide +kernel
theorem dX1_readInto_0 : decode cX1_readInto 0 = .ok (.aload_n 0, 1) := by decide +kernel
theorem dX1_readInto_1 : decode cX1_readInto 1 = .ok (.iconst 0, 1) := by decide +kernel
theorem dX1_readInto_2 : decode cX1_readInto 2 = .ok (.putfield 26, 3) := by decide +kernel
theorem dX1_readInto_5 : decode cX1_readInto 5 = .ok (.aload_n 0, 1) := by decide +kernel
theorem dX1_readInto_6 : decode cX1_readInto 6 = .ok (.iconst 0, 1) := by decide +kernel
theorem dX1_readInto_7 : decode cX1_readInto 7 = .ok (.putfield 29, 3) := by decide +kernel
theorem dX1_readInto_10 : decode cX1_readInto 10 = .ok (.aload_n 0, 1) := by decide +kernel
theorem dX1_readInto_11 : decode cX1_readInto 11 = .ok (.iconst (-1), 1) := by decide +kernel
theorem dX1_readInto_12 : decode cX1_readInto 12 = .ok (.putfield 18, 3) := by decide +kernel
theorem dX1_readInto_15 : decode cX1_readInto 15 = .ok (.aload_n 1, 1) := by decide +kernel
theorem dX1_readInto_16 : decode cX1_readInto 16 = .ok (.invokevirtual 32, 3) := by decide +kernel
theorem dX1_readInto_19 : decode cX1_readInto 19 = .ok (.aload_n 0, 1) := by decide +kernel
theorem dX1_readInto_20 : decode cX1_readInto 20 = .ok (.getfield 12, 3) := by decide +kernel
theorem dX1_readInto_23 : decode cX1_readInto 23 = .ok (.invokevirtual 37, 3) := by decide +kernel
theorem dX1_readInto_26 : decode cX1_readInto 26 = .ok (.iconst 0, 1) := by decide +kernel
theorem dX1_readInto_27 : decode cX1_readInto 27 = .ok (.istore_n 2, 1) := by decide +kernel
theorem dX1_readInto_28 : decode cX1_readInto 28 = .ok (.iload_n 2, 1) := by decide +kernel
theorem dX1_readInto_29 : decode cX1_readInto 29 = .ok (.bipush 24, 2) := by decide +kernel
theorem dX1_readInto_31 : decode cX1_readInto 31 = .ok (.if_icmp .gt 30, 3) := by decide +kernel
theorem dX1_readInto_34 : decode cX1_readInto 34 = .ok (.aload_n 0, 1) := by decide +kernel
theorem dX1_readInto_35 : decode cX1_readInto 35 = .ok (.getfield 12, 3) := by decide +kernel
theorem dX1_readInto_38 : decode cX1_readInto 38 = .ok (.getfield 40, 3) := by decide +kernel
theorem dX1_readInto_41 : decode cX1_readInto 41 = .ok (.iconst 1, 1) := by decide +kernel
theorem dX1_readInto_42 : decode cX1_readInto 42 = .ok (.if_icmp .eq 19, 3) := by decide +kernel
theorem dX1_readInto_45 : decode cX1_readInto 45 = .ok (.aload_n 0, 1) := by decide +kernel
theorem dX1_readInto_46 : decode cX1_readInto 46 = .ok (.aload_n 1, 1) := by decide +kernel
theorem dX1_readInto_47 : decode cX1_readInto 47 = .ok (.invokevirtual 43, 3) := by decide +kernel
theorem dX1_readInto_50 : decode cX1_readInto 50 = .ok (.ifCond .ne 5, 3) := by decide +kernel
theorem dX1_readInto_53 : decode cX1_readInto 53 = .ok (.iconst 0, 1) := by decide +kernel
theorem dX1_readInto_54 : decode cX1_readInto 54 = .ok (.ireturn, 1) := by decide +kernel
theorem dX1_readInto_55 : decode cX1_readInto 55 = .ok (.iinc 2 1, 3) := by decide +kernel
theorem dX1_readInto_58 : decode cX1_readInto 58 = .ok (.goto (-30), 3) := by decide +kernel
theorem dX1_readInto_61 : decode cX1_readInto 61 = .ok (.iconst 1, 1) := by decide +kernel
theorem dX1_readInto_62 : decode cX1_readInto 62 = .ok (.ireturn, 1) := by decide +kernel
theorem dX1_readLine_0 : decode cX1_readLine 0 = .ok (.aload_n 0, 1) := by decide +kernel
theorem dX1_readLine_1 : decode cX1_readLine 1 = .ok (.getfield 12, 3) := by decide +kernel
theorem dX1_readLine_4 : decode cX1_readLine 4 = .ok (.getfield 40, 3) := by decide +kernel
theorem dX1_readLine_7 : decode cX1_readLine 7 = .ok (.istore_n 2, 1) := by decide +kernel
theorem dX1_readLine_8 : decode cX1_readLine 8 = .ok (.iload_n 2, 1) := by decide +kernel
theorem dX1_readLine_9 : decode cX1_readLine 9 = .ok (.iconst 4, 1) := by decide +kernel
theorem dX1_readLine_10 : decode cX1_readLine 10 = .ok (.if_icmp .eq 27, 3) := by decide +kernel
theorem dX1_readLine_13 : decode cX1_readLine 13 = .ok (.iload_n 2, 1) := by decide +kernel
theorem dX1_readLine_14 : decode cX1_readLine 14 = .ok (.bipush 6, 2) := by decide +kernel
theorem dX1_readLine_16 : decode cX1_readLine 16 = .ok (.if_icmp .eq 21, 3) := by decide +kernel
theorem dX1_readLine_19 : decode cX1_readLine 19 = .ok (.iload_n 2, 1) := by decide +kernel
theorem dX1_readLine_20 : decode cX1_readLine 20 = .ok (.bipush 9, 2) := by decide +kernel
theorem dX1_readLine_22 : decode cX1_readLine 22 = .ok (.if_icmp .eq 15, 3) := by decide +kernel
theorem dX1_readLine_25 : decode cX1_readLine 25 = .ok (.iload_n 2, 1) := by decide +kernel
theorem dX1_readLine_26 : decode cX1_readLine 26 = .ok (.bipush 11, 2) := by decide +kernel
theorem dX1_readLine_28 : decode cX1_readLine 28 = .ok (.if_icmp .eq 9, 3) := by decide +kernel
theorem dX1_readLine_31 : decode cX1_readLine 31 = .ok (.aload_n 0, 1) := by decide +kernel
theorem dX1_readLine_32 : decode cX1_readLine 32 = .ok (.iconst 1, 1) := by decide +kernel
theorem dX1_readLine_33 : decode cX1_readLine 33 = .ok (.invokevirtual 47, 3) := by decide +kernel
theorem dX1_readLine_36 : decode cX1_readLine 36 = .ok (.ireturn, 1) := by decide +kernel
theorem dX1_readLine_37 : decode cX1_readLine 37 = .ok (.aload_n 0, 1) := by decide +kernel
theorem dX1_readLine_38 : decode cX1_readLine 38 = .ok (.getfield 26, 3) := by decide +kernel
theorem dX1_readLine_41 : decode cX1_readLine 41 = .ok (.bipush 24, 2) := by decide +kernel
theorem dX1_readLine_43 : decode cX1_readLine 43 = .ok (.if_icmp .lt 9, 3) := by decide +kernel
theorem dX1_readLine_46 : decode cX1_readLine 46 = .ok (.aload_n 0, 1) := by decide +kernel
theorem dX1_readLine_47 : decode cX1_readLine 47 = .ok (.iconst 3, 1) := by decide +kernel
theorem dX1_readLine_48 : decode cX1_readLine 48 = .ok (.invokevirtual 47, 3) := by decide +kernel
theorem dX1_readLine_51 : decode cX1_readLine 51 = .ok (.ireturn, 1) := by decide +kernel
theorem dX1_readLine_52 : decode cX1_readLine 52 = .ok (.aload_n 0, 1) := by decide +kernel
theorem dX1_readLine_53 : decode cX1_readLine 53 = .ok (.getfield 12, 3) := by decide +kernel
theorem dX1_readLine_56 : decode cX1_readLine 56 = .ok (.invokevirtual 51, 3) := by decide +kernel
theorem dX1_readLine_59 : decode cX1_readLine 59 = .ok (.aload_n 0, 1) := by decide +kernel
theorem dX1_readLine_60 : decode cX1_readLine 60 = .ok (.iload_n 2, 1) := by decide +kernel
theorem dX1_readLine_61 : decode cX1_readLine 61 = .ok (.invokestatic 54, 3) := by decide +kernel
theorem dX1_readLine_64 : decode cX1_readLine 64 = .ok (.invokevirtual 58, 3) := by decide +kernel
theorem dX1_readLine_67 : decode cX1_readLine 67 = .ok (.ifCond .ne 5, 3) := by decide +kernel
theorem dX1_readLine_70 : decode cX1_readLine 70 = .ok (.iconst 0, 1) := by decide +kernel
theorem dX1_readLine_71 : decode cX1_readLine 71 = .ok (.ireturn, 1) := by decide +kernel
theorem dX1_readLine_72 : decode cX1_readLine 72 = .ok (.aload_n 0, 1) := by decide +kernel
theorem dX1_readLine_73 : decode cX1_readLine 73 = .ok (.iload_n 2, 1) := by decide +kernel
theorem dX1_readLine_74 : decode cX1_readLine 74 = .ok (.aload_n 1, 1) := by decide +kernel
theorem dX1_readLine_75 : decode cX1_readLine 75 = .ok (.invokevirtual 62, 3) := by decide +kernel
theorem dX1_readLine_78 : decode cX1_readLine 78 = .ok (.aload_n 0, 1) := by decide +kernel
theorem dX1_readLine_79 : decode cX1_readLine 79 = .ok (.dup, 1) := by decide +kernel
theorem dX1_readLine_80 : decode cX1_readLine 80 = .ok (.getfield 26, 3) := by decide +kernel
theorem dX1_readLine_83 : decode cX1_readLine 83 = .ok (.iconst 1, 1) := by decide +kernel
theorem dX1_readLine_84 : decode cX1_readLine 84 = .ok (.iadd, 1) := by decide +kernel
theorem dX1_readLine_85 : decode cX1_readLine 85 = .ok (.putfield 26, 3) := by decide +kernel
theorem dX1_readLine_88 : decode cX1_readLine 88 = .ok (.iconst 1, 1) := by decide +kernel
theorem dX1_readLine_89 : decode cX1_readLine 89 = .ok (.ireturn, 1) := by decide +kernel
theorem dX1_formOf_0 : decode cX1_formOf 0 = .ok (.iload_n 0, 1) := by decide +kernel
theorem dX1_formOf_1 : decode cX1_formOf 1 = .ok (.lookupswitch 47 #[(4, 35), (6, 39), (9, 43)], 35) := by decide +kernel
theorem dX1_formOf_36 : decode cX1_formOf 36 = .ok (.getstatic 66, 3) := by decide +kernel
theorem dX1_formOf_39 : decode cX1_formOf 39 = .ok (.areturn, 1) := by decide +kernel
theorem dX1_formOf_40 : decode cX1_formOf 40 = .ok (.getstatic 69, 3) := by decide +kernel
theorem dX1_formOf_43 : decode cX1_formOf 43 = .ok (.areturn, 1) := by decide +kernel
theorem dX1_formOf_44 : decode cX1_formOf 44 = .ok (.getstatic 72, 3) := by decide +kernel
theorem dX1_formOf_47 : decode cX1_formOf 47 = .ok (.areturn, 1) := by decide +kernel
theorem dX1_formOf_48 : decode cX1_formOf 48 = .ok (.getstatic 75, 3) := by decide +kernel
theorem dX1_formOf_51 : decode cX1_formOf 51 = .ok (.areturn, 1) := by decide +kernel
theorem dX1_readParts_0 : decode cX1_readParts 0 = .ok (.iconst 0, 1) := by decide +kernel
theorem dX1_readParts_1 : decode cX1_readParts 1 = .ok (.istore_n 2, 1) := by decide +kernel
theorem dX1_readParts_2 : decode cX1_readParts 2 = .ok (.iconst 0, 1) := by decide +kernel
theorem dX1_readParts_3 : decode cX1_readParts 3 = .ok (.istore_n 3, 1) := by decide +kernel
theorem dX1_readParts_4 : decode cX1_readParts 4 = .ok (.iload_n 3, 1) := by decide +kernel
theorem dX1_readParts_5 : decode cX1_readParts 5 = .ok (.aload_n 1, 1) := by decide +kernel
theorem dX1_readParts_6 : decode cX1_readParts 6 = .ok (.arraylength, 1) := by decide +kernel
theorem dX1_readParts_7 : decode cX1_readParts 7 = .ok (.if_icmp .ge 117, 3) := by decide +kernel
theorem dX1_readParts_10 : decode cX1_readParts 10 = .ok (.aload_n 1, 1) := by decide +kernel
theorem dX1_readParts_11 : decode cX1_readParts 11 = .ok (.iload_n 3, 1) := by decide +kernel
theorem dX1_readParts_12 : decode cX1_readParts 12 = .ok (.iaload, 1) := by decide +kernel
theorem dX1_readParts_13 : decode cX1_readParts 13 = .ok (.bipush 12, 2) := by decide +kernel
theorem dX1_readParts_15 : decode cX1_readParts 15 = .ok (.if_icmp .lt 7, 3) := by decide +kernel
theorem dX1_readParts_18 : decode cX1_readParts 18 = .ok (.iconst 1, 1) := by decide +kernel
theorem dX1_readParts_19 : decode cX1_readParts 19 = .ok (.goto 4, 3) := by decide +kernel
theorem dX1_readParts_22 : decode cX1_readParts 22 = .ok (.iconst 0, 1) := by decide +kernel
theorem dX1_readParts_23 : decode cX1_readParts 23 = .ok (.istore 4, 2) := by decide +kernel
theorem dX1_readParts_25 : decode cX1_readParts 25 = .ok (.aload_n 0, 1) := by decide +kernel
theorem dX1_readParts_26 : decode cX1_readParts 26 = .ok (.getfield 12, 3) := by decide +kernel
theorem dX1_readParts_29 : decode cX1_readParts 29 = .ok (.getfield 40, 3) := by decide +kernel
theorem dX1_readParts_32 : decode cX1_readParts 32 = .ok (.iload 4, 2) := by decide +kernel
theorem dX1_readParts_34 : decode cX1_readParts 34 = .ok (.ifCond .eq 7, 3) := by decide +kernel
theorem dX1_readParts_37 : decode cX1_readParts 37 = .ok (.iconst 3, 1) := by decide +kernel
theorem dX1_readParts_38 : decode cX1_readParts 38 = .ok (.goto 6, 3) := by decide +kernel
theorem dX1_readParts_41 : decode cX1_readParts 41 = .ok (.aload_n 1, 1) := by decide +kernel
theorem dX1_readParts_42 : decode cX1_readParts 42 = .ok (.iload_n 3, 1) := by decide +kernel
theorem dX1_readParts_43 : decode cX1_readParts 43 = .ok (.iaload, 1) := by decide +kernel
theorem dX1_readParts_44 : decode cX1_readParts 44 = .ok (.if_icmp .eq 9, 3) := by decide +kernel
theorem dX1_readParts_47 : decode cX1_readParts 47 = .ok (.aload_n 0, 1) := by decide +kernel
theorem dX1_readParts_48 : decode cX1_readParts 48 = .ok (.iconst 1, 1) := by decide +kernel
theorem dX1_readParts_49 : decode cX1_readParts 49 = .ok (.invokevirtual 47, 3) := by decide +kernel
theorem dX1_readParts_52 : decode cX1_readParts 52 = .ok (.ireturn, 1) := by decide +kernel
theorem dX1_readParts_53 : decode cX1_readParts 53 = .ok (.iload 4, 2) := by decide +kernel
theorem dX1_readParts_55 : decode cX1_readParts 55 = .ok (.ifCond .eq 56, 3) := by decide +kernel
theorem dX1_readParts_58 : decode cX1_readParts 58 = .ok (.iload_n 2, 1) := by decide +kernel
theorem dX1_readParts_59 : decode cX1_readParts 59 = .ok (.iconst 3, 1) := by decide +kernel
theorem dX1_readParts_60 : decode cX1_readParts 60 = .ok (.if_icmp .ge 51, 3) := by decide +kernel
theorem dX1_readParts_63 : decode cX1_readParts 63 = .ok (.aload_n 0, 1) := by decide +kernel
theorem dX1_readParts_64 : decode cX1_readParts 64 = .ok (.getfield 12, 3) := by decide +kernel
theorem dX1_readParts_67 : decode cX1_readParts 67 = .ok (.getfield 78, 3) := by decide +kernel
theorem dX1_readParts_70 : decode cX1_readParts 70 = .ok (.aload_n 0, 1) := by decide +kernel
theorem dX1_readParts_71 : decode cX1_readParts 71 = .ok (.aload_n 1, 1) := by decide +kernel
theorem dX1_readParts_72 : decode cX1_readParts 72 = .ok (.iload_n 3, 1) := by decide +kernel
theorem dX1_readParts_73 : decode cX1_readParts 73 = .ok (.iaload, 1) := by decide +kernel
theorem dX1_readParts_74 : decode cX1_readParts 74 = .ok (.invokevirtual 81, 3) := by decide +kernel
theorem dX1_readParts_77 : decode cX1_readParts 77 = .ok (.aload_n 1, 1) := by decide +kernel
theorem dX1_readParts_78 : decode cX1_readParts 78 = .ok (.iload_n 3, 1) := by decide +kernel
theorem dX1_readParts_79 : decode cX1_readParts 79 = .ok (.iaload, 1) := by decide +kernel
theorem dX1_readParts_80 : decode cX1_readParts 80 = .ok (.invokestatic 85, 3) := by decide +kernel
theorem dX1_readParts_83 : decode cX1_readParts 83 = .ok (.invokestatic 88, 3) := by decide +kernel
theorem dX1_readParts_86 : decode cX1_readParts 86 = .ok (.ifCond .ne 9, 3) := by decide +kernel
theorem dX1_readParts_89 : decode cX1_readParts 89 = .ok (.aload_n 0, 1) := by decide +kernel
theorem dX1_readParts_90 : decode cX1_readParts 90 = .ok (.iconst 2, 1) := by decide +kernel
theorem dX1_readParts_91 : decode cX1_readParts 91 = .ok (.invokevirtual 47, 3) := by decide +kernel
theorem dX1_readParts_94 : decode cX1_readParts 94 = .ok (.ireturn, 1) := by decide +kernel
theorem dX1_readParts_95 : decode cX1_readParts 95 = .ok (.aload_n 0, 1) := by decide +kernel
theorem dX1_readParts_96 : decode cX1_readParts 96 = .ok (.getfield 22, 3) := by decide +kernel
theorem dX1_readParts_99 : decode cX1_readParts 99 = .ok (.iload_n 2, 1) := by decide +kernel
theorem dX1_readParts_100 : decode cX1_readParts 100 = .ok (.aload_n 0, 1) := by decide +kernel
theorem dX1_readParts_101 : decode cX1_readParts 101 = .ok (.getfield 12, 3) := by decide +kernel
theorem dX1_readParts_104 : decode cX1_readParts 104 = .ok (.getfield 78, 3) := by decide +kernel
theorem dX1_readParts_107 : decode cX1_readParts 107 = .ok (.iastore, 1) := by decide +kernel
theorem dX1_readParts_108 : decode cX1_readParts 108 = .ok (.iinc 2 1, 3) := by decide +kernel
theorem dX1_readParts_111 : decode cX1_readParts 111 = .ok (.aload_n 0, 1) := by decide +kernel
theorem dX1_readParts_112 : decode cX1_readParts 112 = .ok (.getfield 12, 3) := by decide +kernel
theorem dX1_readParts_115 : decode cX1_readParts 115 = .ok (.invokevirtual 51, 3) := by decide +kernel
theorem dX1_readParts_118 : decode cX1_readParts 118 = .ok (.iinc 3 1, 3) := by decide +kernel
theorem dX1_readParts_121 : decode cX1_readParts 121 = .ok (.goto (-117), 3) := by decide +kernel
theorem dX1_readParts_124 : decode cX1_readParts 124 = .ok (.iconst 1, 1) := by decide +kernel
theorem dX1_readParts_125 : decode cX1_readParts 125 = .ok (.ireturn, 1) := by decide +kernel
theorem dX1_leastOf_0 : decode cX1_leastOf 0 = .ok (.iload_n 1, 1) := by decide +kernel
theorem dX1_leastOf_1 : decode cX1_leastOf 1 = .ok (.bipush 15, 2) := by decide +kernel
theorem dX1_leastOf_3 : decode cX1_leastOf 3 = .ok (.if_icmp .ne 12, 3) := by decide +kernel
theorem dX1_leastOf_6 : decode cX1_leastOf 6 = .ok (.aload_n 0, 1) := by decide +kernel
theorem dX1_leastOf_7 : decode cX1_leastOf 7 = .ok (.getfield 22, 3) := by decide +kernel
theorem dX1_leastOf_10 : decode cX1_leastOf 10 = .ok (.iconst 1, 1) := by decide +kernel
theorem dX1_leastOf_11 : decode cX1_leastOf 11 = .ok (.iaload, 1) := by decide +kernel
theorem dX1_leastOf_12 : decode cX1_leastOf 12 = .ok (.goto 4, 3) := by decide +kernel
theorem dX1_leastOf_15 : decode cX1_leastOf 15 = .ok (.iconst 0, 1) := by decide +kernel
theorem dX1_leastOf_16 : decode cX1_leastOf 16 = .ok (.ireturn, 1) := by decide +kernel
theorem dX1_mostOf_0 : decode cX1_mostOf 0 = .ok (.iload_n 0, 1) := by decide +kernel
theorem dX1_mostOf_1 : decode cX1_mostOf 1 = .ok (.lookupswitch 31 #[(12, 27), (13, 29)], 27) := by decide +kernel
theorem dX1_mostOf_28 : decode cX1_mostOf 28 = .ok (.iconst 5, 1) := by decide +kernel
theorem dX1_mostOf_29 : decode cX1_mostOf 29 = .ok (.ireturn, 1) := by decide +kernel
theorem dX1_mostOf_30 : decode cX1_mostOf 30 = .ok (.iconst 3, 1) := by decide +kernel
theorem dX1_mostOf_31 : decode cX1_mostOf 31 = .ok (.ireturn, 1) := by decide +kernel
theorem dX1_mostOf_32 : decode cX1_mostOf 32 = .ok (.bipush 51, 2) := by decide +kernel
theorem dX1_mostOf_34 : decode cX1_mostOf 34 = .ok (.ireturn, 1) := by decide +kernel
theorem dX1_tell_0 : decode cX1_tell 0 = .ok (.iload_n 1, 1) := by decide +kernel
theorem dX1_tell_1 : decode cX1_tell 1 = .ok (.lookupswitch 104 #[(4, 35), (6, 54), (9, 79)], 35) := by decide +kernel
theorem dX1_tell_36 : decode cX1_tell 36 = .ok (.aload_n 2, 1) := by decide +kernel
theorem dX1_tell_37 : decode cX1_tell 37 = .ok (.aload_n 0, 1) := by decide +kernel
theorem dX1_tell_38 : decode cX1_tell 38 = .ok (.getfield 22, 3) := by decide +kernel
theorem dX1_tell_41 : decode cX1_tell 41 = .ok (.iconst 0, 1) := by decide +kernel
theorem dX1_tell_42 : decode cX1_tell 42 = .ok (.iaload, 1) := by decide +kernel
theorem dX1_tell_43 : decode cX1_tell 43 = .ok (.aload_n 0, 1) := by decide +kernel
theorem dX1_tell_44 : decode cX1_tell 44 = .ok (.getfield 22, 3) := by decide +kernel
theorem dX1_tell_47 : decode cX1_tell 47 = .ok (.iconst 1, 1) := by decide +kernel
theorem dX1_tell_48 : decode cX1_tell 48 = .ok (.iaload, 1) := by decide +kernel
theorem dX1_tell_49 : decode cX1_tell 49 = .ok (.invokevirtual 92, 3) := by decide +kernel
theorem dX1_tell_52 : decode cX1_tell 52 = .ok (.goto 64, 3) := by decide +kernel
theorem dX1_tell_55 : decode cX1_tell 55 = .ok (.aload_n 2, 1) := by decide +kernel
theorem dX1_tell_56 : decode cX1_tell 56 = .ok (.aload_n 0, 1) := by decide +kernel
theorem dX1_tell_57 : decode cX1_tell 57 = .ok (.getfield 22, 3) := by decide +kernel
theorem dX1_tell_60 : decode cX1_tell 60 = .ok (.iconst 0, 1) := by decide +kernel
theorem dX1_tell_61 : decode cX1_tell 61 = .ok (.iaload, 1) := by decide +kernel
theorem dX1_tell_62 : decode cX1_tell 62 = .ok (.aload_n 0, 1) := by decide +kernel
theorem dX1_tell_63 : decode cX1_tell 63 = .ok (.getfield 22, 3) := by decide +kernel
theorem dX1_tell_66 : decode cX1_tell 66 = .ok (.iconst 1, 1) := by decide +kernel
theorem dX1_tell_67 : decode cX1_tell 67 = .ok (.iaload, 1) := by decide +kernel
theorem dX1_tell_68 : decode cX1_tell 68 = .ok (.aload_n 0, 1) := by decide +kernel
theorem dX1_tell_69 : decode cX1_tell 69 = .ok (.getfield 22, 3) := by decide +kernel
theorem dX1_tell_72 : decode cX1_tell 72 = .ok (.iconst 2, 1) := by decide +kernel
theorem dX1_tell_73 : decode cX1_tell 73 = .ok (.iaload, 1) := by decide +kernel
theorem dX1_tell_74 : decode cX1_tell 74 = .ok (.invokevirtual 96, 3) := by decide +kernel
theorem dX1_tell_77 : decode cX1_tell 77 = .ok (.goto 39, 3) := by decide +kernel
theorem dX1_tell_80 : decode cX1_tell 80 = .ok (.aload_n 2, 1) := by decide +kernel
theorem dX1_tell_81 : decode cX1_tell 81 = .ok (.aload_n 0, 1) := by decide +kernel
theorem dX1_tell_82 : decode cX1_tell 82 = .ok (.getfield 22, 3) := by decide +kernel
theorem dX1_tell_85 : decode cX1_tell 85 = .ok (.iconst 0, 1) := by decide +kernel
theorem dX1_tell_86 : decode cX1_tell 86 = .ok (.iaload, 1) := by decide +kernel
theorem dX1_tell_87 : decode cX1_tell 87 = .ok (.aload_n 0, 1) := by decide +kernel
theorem dX1_tell_88 : decode cX1_tell 88 = .ok (.getfield 22, 3) := by decide +kernel
theorem dX1_tell_91 : decode cX1_tell 91 = .ok (.iconst 1, 1) := by decide +kernel
theorem dX1_tell_92 : decode cX1_tell 92 = .ok (.iaload, 1) := by decide +kernel
theorem dX1_tell_93 : decode cX1_tell 93 = .ok (.aload_n 0, 1) := by decide +kernel
theorem dX1_tell_94 : decode cX1_tell 94 = .ok (.getfield 22, 3) := by decide +kernel
theorem dX1_tell_97 : decode cX1_tell 97 = .ok (.iconst 2, 1) := by decide +kernel
theorem dX1_tell_98 : decode cX1_tell 98 = .ok (.iaload, 1) := by decide +kernel
theorem dX1_tell_99 : decode cX1_tell 99 = .ok (.invokevirtual 100, 3) := by decide +kernel
theorem dX1_tell_102 : decode cX1_tell 102 = .ok (.goto 14, 3) := by decide +kernel
theorem dX1_tell_105 : decode cX1_tell 105 = .ok (.aload_n 2, 1) := by decide +kernel
theorem dX1_tell_106 : decode cX1_tell 106 = .ok (.aload_n 0, 1) := by decide +kernel
theorem dX1_tell_107 : decode cX1_tell 107 = .ok (.getfield 22, 3) := by decide +kernel
theorem dX1_tell_110 : decode cX1_tell 110 = .ok (.iconst 0, 1) := by decide +kernel
theorem dX1_tell_111 : decode cX1_tell 111 = .ok (.iaload, 1) := by decide +kernel
theorem dX1_tell_112 : decode cX1_tell 112 = .ok (.iconst (-1), 1) := by decide +kernel
theorem dX1_tell_113 : decode cX1_tell 113 = .ok (.invokevirtual 92, 3) := by decide +kernel
theorem dX1_tell_116 : decode cX1_tell 116 = .ok (.return_, 1) := by decide +kernel
theorem dX1_stopAt_0 : decode cX1_stopAt 0 = .ok (.aload_n 0, 1) := by decide +kernel
theorem dX1_stopAt_1 : decode cX1_stopAt 1 = .ok (.iload_n 1, 1) := by decide +kernel
theorem dX1_stopAt_2 : decode cX1_stopAt 2 = .ok (.putfield 29, 3) := by decide +kernel
theorem dX1_stopAt_5 : decode cX1_stopAt 5 = .ok (.aload_n 0, 1) := by decide +kernel
theorem dX1_stopAt_6 : decode cX1_stopAt 6 = .ok (.aload_n 0, 1) := by decide +kernel
theorem dX1_stopAt_7 : decode cX1_stopAt 7 = .ok (.getfield 12, 3) := by decide +kernel
theorem dX1_stopAt_10 : decode cX1_stopAt 10 = .ok (.getfield 103, 3) := by decide +kernel
theorem dX1_stopAt_13 : decode cX1_stopAt 13 = .ok (.putfield 18, 3) := by decide +kernel
theorem dX1_stopAt_16 : decode cX1_stopAt 16 = .ok (.iconst 0, 1) := by decide +kernel
theorem dX1_stopAt_17 : decode cX1_stopAt 17 = .ok (.ireturn, 1) := by decide +kernel
theorem dX2_init_0 : decode cX2_init 0 = .ok (.aload_n 0, 1) := by decide +kernel
theorem dX2_init_1 : decode cX2_init 1 = .ok (.invokespecial 3, 3) := by decide +kernel
theorem dX2_init_4 : decode cX2_init 4 = .ok (.aload_n 0, 1) := by decide +kernel
theorem dX2_init_5 : decode cX2_init 5 = .ok (.bipush 52, 2) := by decide +kernel
theorem dX2_init_7 : decode cX2_init 7 = .ok (.newarray .int, 2) := by decide +kernel
theorem dX2_init_9 : decode cX2_init 9 = .ok (.putfield 9, 3) := by decide +kernel
theorem dX2_init_12 : decode cX2_init 12 = .ok (.aload_n 0, 1) := by decide +kernel
theorem dX2_init_13 : decode cX2_init 13 = .ok (.iload_n 1, 1) := by decide +kernel
theorem dX2_init_14 : decode cX2_init 14 = .ok (.putfield 15, 3) := by decide +kernel
theorem dX2_init_17 : decode cX2_init 17 = .ok (.iconst 0, 1) := by decide +kernel
theorem dX2_init_18 : decode cX2_init 18 = .ok (.istore_n 2, 1) := by decide +kernel
theorem dX2_init_19 : decode cX2_init 19 = .ok (.iload_n 2, 1) := by decide +kernel
theorem dX2_init_20 : decode cX2_init 20 = .ok (.bipush 52, 2) := by decide +kernel
theorem dX2_init_22 : decode cX2_init 22 = .ok (.if_icmp .ge 17, 3) := by decide +kernel
theorem dX2_init_25 : decode cX2_init 25 = .ok (.aload_n 0, 1) := by decide +kernel
theorem dX2_init_26 : decode cX2_init 26 = .ok (.getfield 9, 3) := by decide +kernel
theorem dX2_init_29 : decode cX2_init 29 = .ok (.iload_n 2, 1) := by decide +kernel
theorem dX2_init_30 : decode cX2_init 30 = .ok (.bipush 40, 2) := by decide +kernel
theorem dX2_init_32 : decode cX2_init 32 = .ok (.iastore, 1) := by decide +kernel
theorem dX2_init_33 : decode cX2_init 33 = .ok (.iinc 2 1, 3) := by decide +kernel
theorem dX2_init_36 : decode cX2_init 36 = .ok (.goto (-17), 3) := by decide +kernel
theorem dX2_init_39 : decode cX2_init 39 = .ok (.return_, 1) := by decide +kernel
theorem dX3_init_0 : decode cX3_init 0 = .ok (.aload_n 0, 1) := by decide +kernel
theorem dX3_init_1 : decode cX3_init 1 = .ok (.invokespecial 3, 3) := by decide +kernel
theorem dX3_init_4 : decode cX3_init 4 = .ok (.aload_n 0, 1) := by decide +kernel
theorem dX3_init_5 : decode cX3_init 5 = .ok (.iconst 5, 1) := by decide +kernel
theorem dX3_init_6 : decode cX3_init 6 = .ok (.putfield 9, 3) := by decide +kernel
theorem dX3_init_9 : decode cX3_init 9 = .ok (.aload_n 0, 1) := by decide +kernel
theorem dX3_init_10 : decode cX3_init 10 = .ok (.iconst 2, 1) := by decide +kernel
theorem dX3_init_11 : decode cX3_init 11 = .ok (.putfield 15, 3) := by decide +kernel
theorem dX3_init_14 : decode cX3_init 14 = .ok (.aload_n 0, 1) := by decide +kernel
theorem dX3_init_15 : decode cX3_init 15 = .ok (.iconst 0, 1) := by decide +kernel
theorem dX3_init_16 : decode cX3_init 16 = .ok (.putfield 18, 3) := by decide +kernel
theorem dX3_init_19 : decode cX3_init 19 = .ok (.return_, 1) := by decide +kernel
theorem dX3_grossToMake_0 : decode cX3_grossToMake 0 = .ok (.iload_n 1, 1) := by decide +kernel
theorem dX3_grossToMake_1 : decode cX3_grossToMake 1 = .ok (.istore_n 2, 1) := by decide +kernel
theorem dX3_grossToMake_2 : decode cX3_grossToMake 2 = .ok (.iload_n 2, 1) := by decide +kernel
theorem dX3_grossToMake_3 : decode cX3_grossToMake 3 = .ok (.sipush 200, 3) := by decide +kernel
theorem dX3_grossToMake_6 : decode cX3_grossToMake 6 = .ok (.if_icmp .ge 31, 3) := by decide +kernel
theorem dX3_grossToMake_9 : decode cX3_grossToMake 9 = .ok (.iload_n 2, 1) := by decide +kernel
theorem dX3_grossToMake_10 : decode cX3_grossToMake 10 = .ok (.aload_n 0, 1) := by decide +kernel
theorem dX3_grossToMake_11 : decode cX3_grossToMake 11 = .ok (.getfield 18, 3) := by decide +kernel
theorem dX3_grossToMake_14 : decode cX3_grossToMake 14 = .ok (.imul, 1) := by decide +kernel
theorem dX3_grossToMake_15 : decode cX3_grossToMake 15 = .ok (.bipush 99, 2) := by decide +kernel
theorem dX3_grossToMake_17 : decode cX3_grossToMake 17 = .ok (.iadd, 1) := by decide +kernel
theorem dX3_grossToMake_18 : decode cX3_grossToMake 18 = .ok (.bipush 100, 2) := by decide +kernel
theorem dX3_grossToMake_20 : decode cX3_grossToMake 20 = .ok (.idiv, 1) := by decide +kernel
theorem dX3_grossToMake_21 : decode cX3_grossToMake 21 = .ok (.istore_n 3, 1) := by decide +kernel
theorem dX3_grossToMake_22 : decode cX3_grossToMake 22 = .ok (.iload_n 2, 1) := by decide +kernel
theorem dX3_grossToMake_23 : decode cX3_grossToMake 23 = .ok (.iload_n 3, 1) := by decide +kernel
theorem dX3_grossToMake_24 : decode cX3_grossToMake 24 = .ok (.isub, 1) := by decide +kernel
theorem dX3_grossToMake_25 : decode cX3_grossToMake 25 = .ok (.iload_n 1, 1) := by decide +kernel
theorem dX3_grossToMake_26 : decode cX3_grossToMake 26 = .ok (.if_icmp .lt 5, 3) := by decide +kernel
theorem dX3_grossToMake_29 : decode cX3_grossToMake 29 = .ok (.iload_n 2, 1) := by decide +kernel
theorem dX3_grossToMake_30 : decode cX3_grossToMake 30 = .ok (.ireturn, 1) := by decide +kernel
theorem dX3_grossToMake_31 : decode cX3_grossToMake 31 = .ok (.iinc 2 1, 3) := by decide +kernel
theorem dX3_grossToMake_34 : decode cX3_grossToMake 34 = .ok (.goto (-32), 3) := by decide +kernel
theorem dX3_grossToMake_37 : decode cX3_grossToMake 37 = .ok (.sipush 200, 3) := by decide +kernel
theorem dX3_grossToMake_40 : decode cX3_grossToMake 40 = .ok (.ireturn, 1) := by decide +kernel
theorem dX5_init_0 : decode cX5_init 0 = .ok (.aload_n 0, 1) := by decide +kernel
theorem dX5_init_1 : decode cX5_init 1 = .ok (.invokespecial 3, 3) := by decide +kernel
theorem dX5_init_4 : decode cX5_init 4 = .ok (.aload_n 0, 1) := by decide +kernel
theorem dX5_init_5 : decode cX5_init 5 = .ok (.bipush 6, 2) := by decide +kernel
theorem dX5_init_7 : decode cX5_init 7 = .ok (.newarray .int, 2) := by decide +kernel
theorem dX5_init_9 : decode cX5_init 9 = .ok (.putfield 9, 3) := by decide +kernel
theorem dX5_init_12 : decode cX5_init 12 = .ok (.aload_n 0, 1) := by decide +kernel
theorem dX5_init_13 : decode cX5_init 13 = .ok (.bipush 6, 2) := by decide +kernel
theorem dX5_init_15 : decode cX5_init 15 = .ok (.iconst 4, 1) := by decide +kernel
theorem dX5_init_16 : decode cX5_init 16 = .ok (.multianewarray 15 2, 4) := by decide +kernel
theorem dX5_init_20 : decode cX5_init 20 = .ok (.putfield 17, 3) := by decide +kernel
theorem dX5_init_23 : decode cX5_init 23 = .ok (.aload_n 0, 1) := by decide +kernel
theorem dX5_init_24 : decode cX5_init 24 = .ok (.bipush 6, 2) := by decide +kernel
theorem dX5_init_26 : decode cX5_init 26 = .ok (.newarray .long, 2) := by decide +kernel
theorem dX5_init_28 : decode cX5_init 28 = .ok (.putfield 20, 3) := by decide +kernel
theorem dX5_init_31 : decode cX5_init 31 = .ok (.aload_n 0, 1) := by decide +kernel
theorem dX5_init_32 : decode cX5_init 32 = .ok (.invokevirtual 24, 3) := by decide +kernel
theorem dX5_init_35 : decode cX5_init 35 = .ok (.return_, 1) := by decide +kernel
theorem dX5_forget_0 : decode cX5_forget 0 = .ok (.iconst 0, 1) := by decide +kernel
theorem dX5_forget_1 : decode cX5_forget 1 = .ok (.istore_n 1, 1) := by decide +kernel
theorem dX5_forget_2 : decode cX5_forget 2 = .ok (.iload_n 1, 1) := by decide +kernel
theorem dX5_forget_3 : decode cX5_forget 3 = .ok (.bipush 6, 2) := by decide +kernel
theorem dX5_forget_5 : decode cX5_forget 5 = .ok (.if_icmp .ge 22, 3) := by decide +kernel
theorem dX5_forget_8 : decode cX5_forget 8 = .ok (.aload_n 0, 1) := by decide +kernel
theorem dX5_forget_9 : decode cX5_forget 9 = .ok (.iload_n 1, 1) := by decide +kernel
theorem dX5_forget_10 : decode cX5_forget 10 = .ok (.iconst (-1), 1) := by decide +kernel
theorem dX5_forget_11 : decode cX5_forget 11 = .ok (.invokevirtual 27, 3) := by decide +kernel
theorem dX5_forget_14 : decode cX5_forget 14 = .ok (.aload_n 0, 1) := by decide +kernel
theorem dX5_forget_15 : decode cX5_forget 15 = .ok (.getfield 20, 3) := by decide +kernel
theorem dX5_forget_18 : decode cX5_forget 18 = .ok (.iload_n 1, 1) := by decide +kernel
theorem dX5_forget_19 : decode cX5_forget 19 = .ok (.lconst 0, 1) := by decide +kernel
theorem dX5_forget_20 : decode cX5_forget 20 = .ok (.lastore, 1) := by decide +kernel
theorem dX5_forget_21 : decode cX5_forget 21 = .ok (.iinc 1 1, 3) := by decide +kernel
theorem dX5_forget_24 : decode cX5_forget 24 = .ok (.goto (-22), 3) := by decide +kernel
theorem dX5_forget_27 : decode cX5_forget 27 = .ok (.return_, 1) := by decide +kernel
theorem dX5_give_0 : decode cX5_give 0 = .ok (.aload_n 0, 1) := by decide +kernel
theorem dX5_give_1 : decode cX5_give 1 = .ok (.getfield 9, 3) := by decide +kernel
theorem dX5_give_4 : decode cX5_give 4 = .ok (.iload_n 1, 1) := by decide +kernel
theorem dX5_give_5 : decode cX5_give 5 = .ok (.iload_n 2, 1) := by decide +kernel
theorem dX5_give_6 : decode cX5_give 6 = .ok (.iastore, 1) := by decide +kernel
theorem dX5_give_7 : decode cX5_give 7 = .ok (.iconst 0, 1) := by decide +kernel
theorem dX5_give_8 : decode cX5_give 8 = .ok (.istore_n 3, 1) := by decide +kernel
theorem dX5_give_9 : decode cX5_give 9 = .ok (.iload_n 3, 1) := by decide +kernel
theorem dX5_give_10 : decode cX5_give 10 = .ok (.iconst 4, 1) := by decide +kernel
theorem dX5_give_11 : decode cX5_give 11 = .ok (.if_icmp .ge 18, 3) := by decide +kernel
theorem dX5_give_14 : decode cX5_give 14 = .ok (.aload_n 0, 1) := by decide +kernel
theorem dX5_give_15 : decode cX5_give 15 = .ok (.getfield 17, 3) := by decide +kernel
theorem dX5_give_18 : decode cX5_give 18 = .ok (.iload_n 1, 1) := by decide +kernel
theorem dX5_give_19 : decode cX5_give 19 = .ok (.aaload, 1) := by decide +kernel
theorem dX5_give_20 : decode cX5_give 20 = .ok (.iload_n 3, 1) := by decide +kernel
theorem dX5_give_21 : decode cX5_give 21 = .ok (.iconst (-1), 1) := by decide +kernel
theorem dX5_give_22 : decode cX5_give 22 = .ok (.iastore, 1) := by decide +kernel
theorem dX5_give_23 : decode cX5_give 23 = .ok (.iinc 3 1, 3) := by decide +kernel
theorem dX5_give_26 : decode cX5_give 26 = .ok (.goto (-17), 3) := by decide +kernel
theorem dX5_give_29 : decode cX5_give 29 = .ok (.return_, 1) := by decide +kernel
theorem dX5_share_0 : decode cX5_share 0 = .ok (.aload_n 0, 1) := by decide +kernel
theorem dX5_share_1 : decode cX5_share 1 = .ok (.getfield 17, 3) := by decide +kernel
theorem dX5_share_4 : decode cX5_share 4 = .ok (.iload_n 1, 1) := by decide +kernel
theorem dX5_share_5 : decode cX5_share 5 = .ok (.aaload, 1) := by decide +kernel
theorem dX5_share_6 : decode cX5_share 6 = .ok (.iload_n 2, 1) := by decide +kernel
theorem dX5_share_7 : decode cX5_share 7 = .ok (.aload_n 0, 1) := by decide +kernel
theorem dX5_share_8 : decode cX5_share 8 = .ok (.getfield 17, 3) := by decide +kernel
theorem dX5_share_11 : decode cX5_share 11 = .ok (.iload_n 1, 1) := by decide +kernel
theorem dX5_share_12 : decode cX5_share 12 = .ok (.aaload, 1) := by decide +kernel
theorem dX5_share_13 : decode cX5_share 13 = .ok (.iload_n 2, 1) := by decide +kernel
theorem dX5_share_14 : decode cX5_share 14 = .ok (.iaload, 1) := by decide +kernel
theorem dX5_share_15 : decode cX5_share 15 = .ok (.iload_n 3, 1) := by decide +kernel
theorem dX5_share_16 : decode cX5_share 16 = .ok (.invokestatic 31, 3) := by decide +kernel
theorem dX5_share_19 : decode cX5_share 19 = .ok (.iastore, 1) := by decide +kernel
theorem dX5_share_20 : decode cX5_share 20 = .ok (.return_, 1) := by decide +kernel
theorem dX5_shut_0 : decode cX5_shut 0 = .ok (.iload_n 2, 1) := by decide +kernel
theorem dX5_shut_1 : decode cX5_shut 1 = .ok (.istore 4, 2) := by decide +kernel
theorem dX5_shut_3 : decode cX5_shut 3 = .ok (.iload 4, 2) := by decide +kernel
theorem dX5_shut_5 : decode cX5_shut 5 = .ok (.iload_n 3, 1) := by decide +kernel
theorem dX5_shut_6 : decode cX5_shut 6 = .ok (.if_icmp .gt 22, 3) := by decide +kernel
theorem dX5_shut_9 : decode cX5_shut 9 = .ok (.aload_n 0, 1) := by decide +kernel
theorem dX5_shut_10 : decode cX5_shut 10 = .ok (.getfield 20, 3) := by decide +kernel
theorem dX5_shut_13 : decode cX5_shut 13 = .ok (.iload_n 1, 1) := by decide +kernel
theorem dX5_shut_14 : decode cX5_shut 14 = .ok (.dup2, 1) := by decide +kernel
theorem dX5_shut_15 : decode cX5_shut 15 = .ok (.laload, 1) := by decide +kernel
theorem dX5_shut_16 : decode cX5_shut 16 = .ok (.lconst 1, 1) := by decide +kernel
theorem dX5_shut_17 : decode cX5_shut 17 = .ok (.iload 4, 2) := by decide +kernel
theorem dX5_shut_19 : decode cX5_shut 19 = .ok (.lshl, 1) := by decide +kernel
theorem dX5_shut_20 : decode cX5_shut 20 = .ok (.lor, 1) := by decide +kernel
theorem dX5_shut_21 : decode cX5_shut 21 = .ok (.lastore, 1) := by decide +kernel
theorem dX5_shut_22 : decode cX5_shut 22 = .ok (.iinc 4 1, 3) := by decide +kernel
theorem dX5_shut_25 : decode cX5_shut 25 = .ok (.goto (-22), 3) := by decide +kernel
theorem dX5_shut_28 : decode cX5_shut 28 = .ok (.return_, 1) := by decide +kernel
theorem dX5_allow_0 : decode cX5_allow 0 = .ok (.aload_n 0, 1) := by decide +kernel
theorem dX5_allow_1 : decode cX5_allow 1 = .ok (.getfield 20, 3) := by decide +kernel
theorem dX5_allow_4 : decode cX5_allow 4 = .ok (.iload_n 2, 1) := by decide +kernel
theorem dX5_allow_5 : decode cX5_allow 5 = .ok (.laload, 1) := by decide +kernel
theorem dX5_allow_6 : decode cX5_allow 6 = .ok (.iload_n 3, 1) := by decide +kernel
theorem dX5_allow_7 : decode cX5_allow 7 = .ok (.lshr, 1) := by decide +kernel
theorem dX5_allow_8 : decode cX5_allow 8 = .ok (.lconst 1, 1) := by decide +kernel
theorem dX5_allow_9 : decode cX5_allow 9 = .ok (.land, 1) := by decide +kernel
theorem dX5_allow_10 : decode cX5_allow 10 = .ok (.lconst 0, 1) := by decide +kernel
theorem dX5_allow_11 : decode cX5_allow 11 = .ok (.lcmp, 1) := by decide +kernel
theorem dX5_allow_12 : decode cX5_allow 12 = .ok (.ifCond .eq 5, 3) := by decide +kernel
theorem dX5_allow_15 : decode cX5_allow 15 = .ok (.iconst 0, 1) := by decide +kernel
theorem dX5_allow_16 : decode cX5_allow 16 = .ok (.ireturn, 1) := by decide +kernel
theorem dX5_allow_17 : decode cX5_allow 17 = .ok (.aload_n 0, 1) := by decide +kernel
theorem dX5_allow_18 : decode cX5_allow 18 = .ok (.getfield 9, 3) := by decide +kernel
theorem dX5_allow_21 : decode cX5_allow 21 = .ok (.iload_n 2, 1) := by decide +kernel
theorem dX5_allow_22 : decode cX5_allow 22 = .ok (.iaload, 1) := by decide +kernel
theorem dX5_allow_23 : decode cX5_allow 23 = .ok (.iconst (-1), 1) := by decide +kernel
theorem dX5_allow_24 : decode cX5_allow 24 = .ok (.if_icmp .eq 25, 3) := by decide +kernel
theorem dX5_allow_27 : decode cX5_allow 27 = .ok (.aload_n 0, 1) := by decide +kernel
theorem dX5_allow_28 : decode cX5_allow 28 = .ok (.getfield 9, 3) := by decide +kernel
theorem dX5_allow_31 : decode cX5_allow 31 = .ok (.iload_n 2, 1) := by decide +kernel
theorem dX5_allow_32 : decode cX5_allow 32 = .ok (.iaload, 1) := by decide +kernel
theorem dX5_allow_33 : decode cX5_allow 33 = .ok (.iload_n 1, 1) := by decide +kernel
theorem dX5_allow_34 : decode cX5_allow 34 = .ok (.if_icmp .eq 15, 3) := by decide +kernel
theorem dX5_allow_37 : decode cX5_allow 37 = .ok (.aload_n 0, 1) := by decide +kernel
theorem dX5_allow_38 : decode cX5_allow 38 = .ok (.getfield 17, 3) := by decide +kernel
theorem dX5_allow_41 : decode cX5_allow 41 = .ok (.iload_n 2, 1) := by decide +kernel
theorem dX5_allow_42 : decode cX5_allow 42 = .ok (.aaload, 1) := by decide +kernel
theorem dX5_allow_43 : decode cX5_allow 43 = .ok (.iload_n 1, 1) := by decide +kernel
theorem dX5_allow_44 : decode cX5_allow 44 = .ok (.iaload, 1) := by decide +kernel
theorem dX5_allow_45 : decode cX5_allow 45 = .ok (.iload_n 3, 1) := by decide +kernel
theorem dX5_allow_46 : decode cX5_allow 46 = .ok (.if_icmp .lt 7, 3) := by decide +kernel
theorem dX5_allow_49 : decode cX5_allow 49 = .ok (.iconst 1, 1) := by decide +kernel
theorem dX5_allow_50 : decode cX5_allow 50 = .ok (.goto 4, 3) := by decide +kernel
theorem dX5_allow_53 : decode cX5_allow 53 = .ok (.iconst 0, 1) := by decide +kernel
theorem dX5_allow_54 : decode cX5_allow 54 = .ok (.ireturn, 1) := by decide +kernel
theorem dX6_init_0 : decode cX6_init 0 = .ok (.aload_n 0, 1) := by decide +kernel
theorem dX6_init_1 : decode cX6_init 1 = .ok (.invokespecial 3, 3) := by decide +kernel
theorem dX6_init_4 : decode cX6_init 4 = .ok (.aload_n 0, 1) := by decide +kernel
theorem dX6_init_5 : decode cX6_init 5 = .ok (.iconst 0, 1) := by decide +kernel
theorem dX6_init_6 : decode cX6_init 6 = .ok (.putfield 9, 3) := by decide +kernel
theorem dX6_init_9 : decode cX6_init 9 = .ok (.aload_n 0, 1) := by decide +kernel
theorem dX6_init_10 : decode cX6_init 10 = .ok (.iconst (-1), 1) := by decide +kernel
theorem dX6_init_11 : decode cX6_init 11 = .ok (.putfield 15, 3) := by decide +kernel
theorem dX6_init_14 : decode cX6_init 14 = .ok (.aload_n 0, 1) := by decide +kernel
theorem dX6_init_15 : decode cX6_init 15 = .ok (.iload_n 1, 1) := by decide +kernel
theorem dX6_init_16 : decode cX6_init 16 = .ok (.putfield 18, 3) := by decide +kernel
theorem dX6_init_19 : decode cX6_init 19 = .ok (.return_, 1) := by decide +kernel
theorem dX6_reckonAnew_0 : decode cX6_reckonAnew 0 = .ok (.aload_n 0, 1) := by decide +kernel
theorem dX6_reckonAnew_1 : decode cX6_reckonAnew 1 = .ok (.aload_n 1, 1) := by decide +kernel
theorem dX6_reckonAnew_2 : decode cX6_reckonAnew 2 = .ok (.aload_n 0, 1) := by decide +kernel
theorem dX6_reckonAnew_3 : decode cX6_reckonAnew 3 = .ok (.getfield 21, 3) := by decide +kernel
theorem dX6_reckonAnew_6 : decode cX6_reckonAnew 6 = .ok (.invokevirtual 24, 3) := by decide +kernel
theorem dX6_reckonAnew_9 : decode cX6_reckonAnew 9 = .ok (.putfield 30, 3) := by decide +kernel
theorem dX6_reckonAnew_12 : decode cX6_reckonAnew 12 = .ok (.aload_n 0, 1) := by decide +kernel
theorem dX6_reckonAnew_13 : decode cX6_reckonAnew 13 = .ok (.aload_n 0, 1) := by decide +kernel
theorem dX6_reckonAnew_14 : decode cX6_reckonAnew 14 = .ok (.getfield 30, 3) := by decide +kernel
theorem dX6_reckonAnew_17 : decode cX6_reckonAnew 17 = .ok (.aload_n 1, 1) := by decide +kernel
theorem dX6_reckonAnew_18 : decode cX6_reckonAnew 18 = .ok (.getfield 33, 3) := by decide +kernel
theorem dX6_reckonAnew_21 : decode cX6_reckonAnew 21 = .ok (.imul, 1) := by decide +kernel
theorem dX6_reckonAnew_22 : decode cX6_reckonAnew 22 = .ok (.putfield 36, 3) := by decide +kernel
theorem dX6_reckonAnew_25 : decode cX6_reckonAnew 25 = .ok (.aload_n 0, 1) := by decide +kernel
theorem dX6_reckonAnew_26 : decode cX6_reckonAnew 26 = .ok (.aload_n 0, 1) := by decide +kernel
theorem dX6_reckonAnew_27 : decode cX6_reckonAnew 27 = .ok (.getfield 30, 3) := by decide +kernel
theorem dX6_reckonAnew_30 : decode cX6_reckonAnew 30 = .ok (.aload_n 1, 1) := by decide +kernel
theorem dX6_reckonAnew_31 : decode cX6_reckonAnew 31 = .ok (.getfield 37, 3) := by decide +kernel
theorem dX6_reckonAnew_34 : decode cX6_reckonAnew 34 = .ok (.imul, 1) := by decide +kernel
theorem dX6_reckonAnew_35 : decode cX6_reckonAnew 35 = .ok (.putfield 40, 3) := by decide +kernel
theorem dX6_reckonAnew_38 : decode cX6_reckonAnew 38 = .ok (.aload_n 0, 1) := by decide +kernel
theorem dX6_reckonAnew_39 : decode cX6_reckonAnew 39 = .ok (.iconst 0, 1) := by decide +kernel
theorem dX6_reckonAnew_40 : decode cX6_reckonAnew 40 = .ok (.putfield 41, 3) := by decide +kernel
theorem dX6_reckonAnew_43 : decode cX6_reckonAnew 43 = .ok (.aload_n 0, 1) := by decide +kernel
theorem dX6_reckonAnew_44 : decode cX6_reckonAnew 44 = .ok (.iconst (-1), 1) := by decide +kernel
theorem dX6_reckonAnew_45 : decode cX6_reckonAnew 45 = .ok (.putfield 15, 3) := by decide +kernel
theorem dX6_reckonAnew_48 : decode cX6_reckonAnew 48 = .ok (.return_, 1) := by decide +kernel
theorem dX6_hoursLeftFor_0 : decode cX6_hoursLeftFor 0 = .ok (.aload_n 0, 1) := by decide +kernel
theorem dX6_hoursLeftFor_1 : decode cX6_hoursLeftFor 1 = .ok (.getfield 15, 3) := by decide +kernel
theorem dX6_hoursLeftFor_4 : decode cX6_hoursLeftFor 4 = .ok (.iload_n 1, 1) := by decide +kernel
theorem dX6_hoursLeftFor_5 : decode cX6_hoursLeftFor 5 = .ok (.if_icmp .ne 15, 3) := by decide +kernel
theorem dX6_hoursLeftFor_8 : decode cX6_hoursLeftFor 8 = .ok (.aload_n 0, 1) := by decide +kernel
theorem dX6_hoursLeftFor_9 : decode cX6_hoursLeftFor 9 = .ok (.getfield 36, 3) := by decide +kernel
theorem dX6_hoursLeftFor_12 : decode cX6_hoursLeftFor 12 = .ok (.aload_n 0, 1) := by decide +kernel
theorem dX6_hoursLeftFor_13 : decode cX6_hoursLeftFor 13 = .ok (.getfield 41, 3) := by decide +kernel
theorem dX6_hoursLeftFor_16 : decode cX6_hoursLeftFor 16 = .ok (.isub, 1) := by decide +kernel
theorem dX6_hoursLeftFor_17 : decode cX6_hoursLeftFor 17 = .ok (.goto 7, 3) := by decide +kernel
theorem dX6_hoursLeftFor_20 : decode cX6_hoursLeftFor 20 = .ok (.aload_n 0, 1) := by decide +kernel
theorem dX6_hoursLeftFor_21 : decode cX6_hoursLeftFor 21 = .ok (.getfield 36, 3) := by decide +kernel
theorem dX6_hoursLeftFor_24 : decode cX6_hoursLeftFor 24 = .ok (.ireturn, 1) := by decide +kernel
theorem dX6_workBy_0 : decode cX6_workBy 0 = .ok (.aload_n 0, 1) := by decide +kernel
theorem dX6_workBy_1 : decode cX6_workBy 1 = .ok (.getfield 15, 3) := by decide +kernel
theorem dX6_workBy_4 : decode cX6_workBy 4 = .ok (.iload_n 1, 1) := by decide +kernel
theorem dX6_workBy_5 : decode cX6_workBy 5 = .ok (.if_icmp .eq 13, 3) := by decide +kernel
theorem dX6_workBy_8 : decode cX6_workBy 8 = .ok (.aload_n 0, 1) := by decide +kernel
theorem dX6_workBy_9 : decode cX6_workBy 9 = .ok (.iload_n 1, 1) := by decide +kernel
theorem dX6_workBy_10 : decode cX6_workBy 10 = .ok (.putfield 15, 3) := by decide +kernel
theorem dX6_workBy_13 : decode cX6_workBy 13 = .ok (.aload_n 0, 1) := by decide +kernel
theorem dX6_workBy_14 : decode cX6_workBy 14 = .ok (.iconst 0, 1) := by decide +kernel
theorem dX6_workBy_15 : decode cX6_workBy 15 = .ok (.putfield 41, 3) := by decide +kernel
theorem dX6_workBy_18 : decode cX6_workBy 18 = .ok (.aload_n 0, 1) := by decide +kernel
theorem dX6_workBy_19 : decode cX6_workBy 19 = .ok (.dup, 1) := by decide +kernel
theorem dX6_workBy_20 : decode cX6_workBy 20 = .ok (.getfield 41, 3) := by decide +kernel
theorem dX6_workBy_23 : decode cX6_workBy 23 = .ok (.iload_n 2, 1) := by decide +kernel
theorem dX6_workBy_24 : decode cX6_workBy 24 = .ok (.iadd, 1) := by decide +kernel
theorem dX6_workBy_25 : decode cX6_workBy 25 = .ok (.putfield 41, 3) := by decide +kernel
theorem dX6_workBy_28 : decode cX6_workBy 28 = .ok (.return_, 1) := by decide +kernel
theorem dX7_init_0 : decode cX7_init 0 = .ok (.aload_n 0, 1) := by decide +kernel
theorem dX7_init_1 : decode cX7_init 1 = .ok (.invokespecial 3, 3) := by decide +kernel
theorem dX7_init_4 : decode cX7_init 4 = .ok (.aload_n 0, 1) := by decide +kernel
theorem dX7_init_5 : decode cX7_init 5 = .ok (.sipush 500, 3) := by decide +kernel
theorem dX7_init_8 : decode cX7_init 8 = .ok (.newarray .byte, 2) := by decide +kernel
theorem dX7_init_10 : decode cX7_init 10 = .ok (.putfield 9, 3) := by decide +kernel
theorem dX7_init_13 : decode cX7_init 13 = .ok (.return_, 1) := by decide +kernel
theorem dX7_put_0 : decode cX7_put 0 = .ok (.bipush 24, 2) := by decide +kernel
theorem dX7_put_2 : decode cX7_put 2 = .ok (.istore_n 2, 1) := by decide +kernel
theorem dX7_put_3 : decode cX7_put 3 = .ok (.iload_n 2, 1) := by decide +kernel
theorem dX7_put_4 : decode cX7_put 4 = .ok (.ifCond .lt 42, 3) := by decide +kernel
theorem dX7_put_7 : decode cX7_put 7 = .ok (.aload_n 0, 1) := by decide +kernel
theorem dX7_put_8 : decode cX7_put 8 = .ok (.getfield 15, 3) := by decide +kernel
theorem dX7_put_11 : decode cX7_put 11 = .ok (.sipush 500, 3) := by decide +kernel
theorem dX7_put_14 : decode cX7_put 14 = .ok (.if_icmp .ge 32, 3) := by decide +kernel
theorem dX7_put_17 : decode cX7_put 17 = .ok (.aload_n 0, 1) := by decide +kernel
theorem dX7_put_18 : decode cX7_put 18 = .ok (.getfield 9, 3) := by decide +kernel
theorem dX7_put_21 : decode cX7_put 21 = .ok (.aload_n 0, 1) := by decide +kernel
theorem dX7_put_22 : decode cX7_put 22 = .ok (.getfield 15, 3) := by decide +kernel
theorem dX7_put_25 : decode cX7_put 25 = .ok (.iload_n 1, 1) := by decide +kernel
theorem dX7_put_26 : decode cX7_put 26 = .ok (.iload_n 2, 1) := by decide +kernel
theorem dX7_put_27 : decode cX7_put 27 = .ok (.ishr, 1) := by decide +kernel
theorem dX7_put_28 : decode cX7_put 28 = .ok (.i2b, 1) := by decide +kernel
theorem dX7_put_29 : decode cX7_put 29 = .ok (.bastore, 1) := by decide +kernel
theorem dX7_put_30 : decode cX7_put 30 = .ok (.aload_n 0, 1) := by decide +kernel
theorem dX7_put_31 : decode cX7_put 31 = .ok (.dup, 1) := by decide +kernel
theorem dX7_put_32 : decode cX7_put 32 = .ok (.getfield 15, 3) := by decide +kernel
theorem dX7_put_35 : decode cX7_put 35 = .ok (.iconst 1, 1) := by decide +kernel
theorem dX7_put_36 : decode cX7_put 36 = .ok (.iadd, 1) := by decide +kernel
theorem dX7_put_37 : decode cX7_put 37 = .ok (.putfield 15, 3) := by decide +kernel
theorem dX7_put_40 : decode cX7_put 40 = .ok (.iinc 2 (-8), 3) := by decide +kernel
theorem dX7_put_43 : decode cX7_put 43 = .ok (.goto (-40), 3) := by decide +kernel
theorem dX7_put_46 : decode cX7_put 46 = .ok (.return_, 1) := by decide +kernel
theorem dX7_rewind_0 : decode cX7_rewind 0 = .ok (.aload_n 0, 1) := by decide +kernel
theorem dX7_rewind_1 : decode cX7_rewind 1 = .ok (.iconst 0, 1) := by decide +kernel
theorem dX7_rewind_2 : decode cX7_rewind 2 = .ok (.putfield 19, 3) := by decide +kernel
theorem dX7_rewind_5 : decode cX7_rewind 5 = .ok (.aload_n 0, 1) := by decide +kernel
theorem dX7_rewind_6 : decode cX7_rewind 6 = .ok (.invokevirtual 22, 3) := by decide +kernel
theorem dX7_rewind_9 : decode cX7_rewind 9 = .ok (.return_, 1) := by decide +kernel
theorem dX7_readToken_0 : decode cX7_readToken 0 = .ok (.aload_n 0, 1) := by decide +kernel
theorem dX7_readToken_1 : decode cX7_readToken 1 = .ok (.invokevirtual 25, 3) := by decide +kernel
theorem dX7_readToken_4 : decode cX7_readToken 4 = .ok (.aload_n 0, 1) := by decide +kernel
theorem dX7_readToken_5 : decode cX7_readToken 5 = .ok (.aload_n 0, 1) := by decide +kernel
theorem dX7_readToken_6 : decode cX7_readToken 6 = .ok (.getfield 19, 3) := by decide +kernel
theorem dX7_readToken_9 : decode cX7_readToken 9 = .ok (.putfield 28, 3) := by decide +kernel
theorem dX7_readToken_12 : decode cX7_readToken 12 = .ok (.aload_n 0, 1) := by decide +kernel
theorem dX7_readToken_13 : decode cX7_readToken 13 = .ok (.getfield 19, 3) := by decide +kernel
theorem dX7_readToken_16 : decode cX7_readToken 16 = .ok (.aload_n 0, 1) := by decide +kernel
theorem dX7_readToken_17 : decode cX7_readToken 17 = .ok (.getfield 15, 3) := by decide +kernel
theorem dX7_readToken_20 : decode cX7_readToken 20 = .ok (.if_icmp .lt 11, 3) := by decide +kernel
theorem dX7_readToken_23 : decode cX7_readToken 23 = .ok (.aload_n 0, 1) := by decide +kernel
theorem dX7_readToken_24 : decode cX7_readToken 24 = .ok (.iconst 1, 1) := by decide +kernel
theorem dX7_readToken_25 : decode cX7_readToken 25 = .ok (.putfield 31, 3) := by decide +kernel
theorem dX7_readToken_28 : decode cX7_readToken 28 = .ok (.goto 80, 3) := by decide +kernel
theorem dX7_readToken_31 : decode cX7_readToken 31 = .ok (.aload_n 0, 1) := by decide +kernel
theorem dX7_readToken_32 : decode cX7_readToken 32 = .ok (.getfield 9, 3) := by decide +kernel
theorem dX7_readToken_35 : decode cX7_readToken 35 = .ok (.aload_n 0, 1) := by decide +kernel
theorem dX7_readToken_36 : decode cX7_readToken 36 = .ok (.getfield 19, 3) := by decide +kernel
theorem dX7_readToken_39 : decode cX7_readToken 39 = .ok (.baload, 1) := by decide +kernel
theorem dX7_readToken_40 : decode cX7_readToken 40 = .ok (.invokestatic 34, 3) := by decide +kernel
theorem dX7_readToken_43 : decode cX7_readToken 43 = .ok (.ifCond .eq 10, 3) := by decide +kernel
theorem dX7_readToken_46 : decode cX7_readToken 46 = .ok (.aload_n 0, 1) := by decide +kernel
theorem dX7_readToken_47 : decode cX7_readToken 47 = .ok (.invokevirtual 38, 3) := by decide +kernel
theorem dX7_readToken_50 : decode cX7_readToken 50 = .ok (.goto 58, 3) := by decide +kernel
theorem dX7_readToken_53 : decode cX7_readToken 53 = .ok (.aload_n 0, 1) := by decide +kernel
theorem dX7_readToken_54 : decode cX7_readToken 54 = .ok (.getfield 9, 3) := by decide +kernel
theorem dX7_readToken_57 : decode cX7_readToken 57 = .ok (.aload_n 0, 1) := by decide +kernel
theorem dX7_readToken_58 : decode cX7_readToken 58 = .ok (.getfield 19, 3) := by decide +kernel
theorem dX7_readToken_61 : decode cX7_readToken 61 = .ok (.baload, 1) := by decide +kernel
theorem dX7_readToken_62 : decode cX7_readToken 62 = .ok (.invokestatic 41, 3) := by decide +kernel
theorem dX7_readToken_65 : decode cX7_readToken 65 = .ok (.ifCond .eq 10, 3) := by decide +kernel
theorem dX7_readToken_68 : decode cX7_readToken 68 = .ok (.aload_n 0, 1) := by decide +kernel
theorem dX7_readToken_69 : decode cX7_readToken 69 = .ok (.invokevirtual 44, 3) := by decide +kernel
theorem dX7_readToken_72 : decode cX7_readToken 72 = .ok (.goto 36, 3) := by decide +kernel
theorem dX7_readToken_75 : decode cX7_readToken 75 = .ok (.aload_n 0, 1) := by decide +kernel
theorem dX7_readToken_76 : decode cX7_readToken 76 = .ok (.aload_n 0, 1) := by decide +kernel
theorem dX7_readToken_77 : decode cX7_readToken 77 = .ok (.getfield 9, 3) := by decide +kernel
theorem dX7_readToken_80 : decode cX7_readToken 80 = .ok (.aload_n 0, 1) := by decide +kernel
theorem dX7_readToken_81 : decode cX7_readToken 81 = .ok (.getfield 19, 3) := by decide +kernel
theorem dX7_readToken_84 : decode cX7_readToken 84 = .ok (.baload, 1) := by decide +kernel
theorem dX7_readToken_85 : decode cX7_readToken 85 = .ok (.bipush 59, 2) := by decide +kernel
theorem dX7_readToken_87 : decode cX7_readToken 87 = .ok (.if_icmp .ne 7, 3) := by decide +kernel
theorem dX7_readToken_90 : decode cX7_readToken 90 = .ok (.iconst 2, 1) := by decide +kernel
theorem dX7_readToken_91 : decode cX7_readToken 91 = .ok (.goto 4, 3) := by decide +kernel
theorem dX7_readToken_94 : decode cX7_readToken 94 = .ok (.iconst 0, 1) := by decide +kernel
theorem dX7_readToken_95 : decode cX7_readToken 95 = .ok (.putfield 31, 3) := by decide +kernel
theorem dX7_readToken_98 : decode cX7_readToken 98 = .ok (.aload_n 0, 1) := by decide +kernel
theorem dX7_readToken_99 : decode cX7_readToken 99 = .ok (.dup, 1) := by decide +kernel
theorem dX7_readToken_100 : decode cX7_readToken 100 = .ok (.getfield 19, 3) := by decide +kernel
theorem dX7_readToken_103 : decode cX7_readToken 103 = .ok (.iconst 1, 1) := by decide +kernel
theorem dX7_readToken_104 : decode cX7_readToken 104 = .ok (.iadd, 1) := by decide +kernel
theorem dX7_readToken_105 : decode cX7_readToken 105 = .ok (.putfield 19, 3) := by decide +kernel
theorem dX7_readToken_108 : decode cX7_readToken 108 = .ok (.return_, 1) := by decide +kernel
theorem dX7_skipBlanks_0 : decode cX7_skipBlanks 0 = .ok (.aload_n 0, 1) := by decide +kernel
theorem dX7_skipBlanks_1 : decode cX7_skipBlanks 1 = .ok (.getfield 19, 3) := by decide +kernel
theorem dX7_skipBlanks_4 : decode cX7_skipBlanks 4 = .ok (.aload_n 0, 1) := by decide +kernel
theorem dX7_skipBlanks_5 : decode cX7_skipBlanks 5 = .ok (.getfield 15, 3) := by decide +kernel
theorem dX7_skipBlanks_8 : decode cX7_skipBlanks 8 = .ok (.if_icmp .ge 44, 3) := by decide +kernel
theorem dX7_skipBlanks_11 : decode cX7_skipBlanks 11 = .ok (.aload_n 0, 1) := by decide +kernel
theorem dX7_skipBlanks_12 : decode cX7_skipBlanks 12 = .ok (.getfield 9, 3) := by decide +kernel
theorem dX7_skipBlanks_15 : decode cX7_skipBlanks 15 = .ok (.aload_n 0, 1) := by decide +kernel
theorem dX7_skipBlanks_16 : decode cX7_skipBlanks 16 = .ok (.getfield 19, 3) := by decide +kernel
theorem dX7_skipBlanks_19 : decode cX7_skipBlanks 19 = .ok (.baload, 1) := by decide +kernel
theorem dX7_skipBlanks_20 : decode cX7_skipBlanks 20 = .ok (.bipush 32, 2) := by decide +kernel
theorem dX7_skipBlanks_22 : decode cX7_skipBlanks 22 = .ok (.if_icmp .eq 17, 3) := by decide +kernel
theorem dX7_skipBlanks_25 : decode cX7_skipBlanks 25 = .ok (.aload_n 0, 1) := by decide +kernel
theorem dX7_skipBlanks_26 : decode cX7_skipBlanks 26 = .ok (.getfield 9, 3) := by decide +kernel
theorem dX7_skipBlanks_29 : decode cX7_skipBlanks 29 = .ok (.aload_n 0, 1) := by decide +kernel
theorem dX7_skipBlanks_30 : decode cX7_skipBlanks 30 = .ok (.getfield 19, 3) := by decide +kernel
theorem dX7_skipBlanks_33 : decode cX7_skipBlanks 33 = .ok (.baload, 1) := by decide +kernel
theorem dX7_skipBlanks_34 : decode cX7_skipBlanks 34 = .ok (.bipush 10, 2) := by decide +kernel
theorem dX7_skipBlanks_36 : decode cX7_skipBlanks 36 = .ok (.if_icmp .ne 16, 3) := by decide +kernel
theorem dX7_skipBlanks_39 : decode cX7_skipBlanks 39 = .ok (.aload_n 0, 1) := by decide +kernel
theorem dX7_skipBlanks_40 : decode cX7_skipBlanks 40 = .ok (.dup, 1) := by decide +kernel
theorem dX7_skipBlanks_41 : decode cX7_skipBlanks 41 = .ok (.getfield 19, 3) := by decide +kernel
theorem dX7_skipBlanks_44 : decode cX7_skipBlanks 44 = .ok (.iconst 1, 1) := by decide +kernel
theorem dX7_skipBlanks_45 : decode cX7_skipBlanks 45 = .ok (.iadd, 1) := by decide +kernel
theorem dX7_skipBlanks_46 : decode cX7_skipBlanks 46 = .ok (.putfield 19, 3) := by decide +kernel
theorem dX7_skipBlanks_49 : decode cX7_skipBlanks 49 = .ok (.goto (-49), 3) := by decide +kernel
theorem dX7_skipBlanks_52 : decode cX7_skipBlanks 52 = .ok (.return_, 1) := by decide +kernel
theorem dX7_readWord_0 : decode cX7_readWord 0 = .ok (.aload_n 0, 1) := by decide +kernel
theorem dX7_readWord_1 : decode cX7_readWord 1 = .ok (.getfield 19, 3) := by decide +kernel
theorem dX7_readWord_4 : decode cX7_readWord 4 = .ok (.aload_n 0, 1) := by decide +kernel
theorem dX7_readWord_5 : decode cX7_readWord 5 = .ok (.getfield 15, 3) := by decide +kernel
theorem dX7_readWord_8 : decode cX7_readWord 8 = .ok (.if_icmp .ge 31, 3) := by decide +kernel
theorem dX7_readWord_11 : decode cX7_readWord 11 = .ok (.aload_n 0, 1) := by decide +kernel
theorem dX7_readWord_12 : decode cX7_readWord 12 = .ok (.getfield 9, 3) := by decide +kernel
theorem dX7_readWord_15 : decode cX7_readWord 15 = .ok (.aload_n 0, 1) := by decide +kernel
theorem dX7_readWord_16 : decode cX7_readWord 16 = .ok (.getfield 19, 3) := by decide +kernel
theorem dX7_readWord_19 : decode cX7_readWord 19 = .ok (.baload, 1) := by decide +kernel
theorem dX7_readWord_20 : decode cX7_readWord 20 = .ok (.invokestatic 34, 3) := by decide +kernel
theorem dX7_readWord_23 : decode cX7_readWord 23 = .ok (.ifCond .eq 16, 3) := by decide +kernel
theorem dX7_readWord_26 : decode cX7_readWord 26 = .ok (.aload_n 0, 1) := by decide +kernel
theorem dX7_readWord_27 : decode cX7_readWord 27 = .ok (.dup, 1) := by decide +kernel
theorem dX7_readWord_28 : decode cX7_readWord 28 = .ok (.getfield 19, 3) := by decide +kernel
theorem dX7_readWord_31 : decode cX7_readWord 31 = .ok (.iconst 1, 1) := by decide +kernel
theorem dX7_readWord_32 : decode cX7_readWord 32 = .ok (.iadd, 1) := by decide +kernel
theorem dX7_readWord_33 : decode cX7_readWord 33 = .ok (.putfield 19, 3) := by decide +kernel
theorem dX7_readWord_36 : decode cX7_readWord 36 = .ok (.goto (-36), 3) := by decide +kernel
theorem dX7_readWord_39 : decode cX7_readWord 39 = .ok (.aload_n 0, 1) := by decide +kernel
theorem dX7_readWord_40 : decode cX7_readWord 40 = .ok (.aload_n 0, 1) := by decide +kernel
theorem dX7_readWord_41 : decode cX7_readWord 41 = .ok (.invokevirtual 47, 3) := by decide +kernel
theorem dX7_readWord_44 : decode cX7_readWord 44 = .ok (.putfield 31, 3) := by decide +kernel
theorem dX7_readWord_47 : decode cX7_readWord 47 = .ok (.return_, 1) := by decide +kernel
theorem dX7_readNumber_0 : decode cX7_readNumber 0 = .ok (.aload_n 0, 1) := by decide +kernel
theorem dX7_readNumber_1 : decode cX7_readNumber 1 = .ok (.iconst 0, 1) := by decide +kernel
theorem dX7_readNumber_2 : decode cX7_readNumber 2 = .ok (.putfield 51, 3) := by decide +kernel
theorem dX7_readNumber_5 : decode cX7_readNumber 5 = .ok (.aload_n 0, 1) := by decide +kernel
theorem dX7_readNumber_6 : decode cX7_readNumber 6 = .ok (.getfield 19, 3) := by decide +kernel
theorem dX7_readNumber_9 : decode cX7_readNumber 9 = .ok (.aload_n 0, 1) := by decide +kernel
theorem dX7_readNumber_10 : decode cX7_readNumber 10 = .ok (.getfield 15, 3) := by decide +kernel
theorem dX7_readNumber_13 : decode cX7_readNumber 13 = .ok (.if_icmp .ge 55, 3) := by decide +kernel
theorem dX7_readNumber_16 : decode cX7_readNumber 16 = .ok (.aload_n 0, 1) := by decide +kernel
theorem dX7_readNumber_17 : decode cX7_readNumber 17 = .ok (.getfield 9, 3) := by decide +kernel
theorem dX7_readNumber_20 : decode cX7_readNumber 20 = .ok (.aload_n 0, 1) := by decide +kernel
theorem dX7_readNumber_21 : decode cX7_readNumber 21 = .ok (.getfield 19, 3) := by decide +kernel
theorem dX7_readNumber_24 : decode cX7_readNumber 24 = .ok (.baload, 1) := by decide +kernel
theorem dX7_readNumber_25 : decode cX7_readNumber 25 = .ok (.invokestatic 41, 3) := by decide +kernel
theorem dX7_readNumber_28 : decode cX7_readNumber 28 = .ok (.ifCond .eq 40, 3) := by decide +kernel
theorem dX7_readNumber_31 : decode cX7_readNumber 31 = .ok (.aload_n 0, 1) := by decide +kernel
theorem dX7_readNumber_32 : decode cX7_readNumber 32 = .ok (.aload_n 0, 1) := by decide +kernel
theorem dX7_readNumber_33 : decode cX7_readNumber 33 = .ok (.getfield 51, 3) := by decide +kernel
theorem dX7_readNumber_36 : decode cX7_readNumber 36 = .ok (.bipush 10, 2) := by decide +kernel
theorem dX7_readNumber_38 : decode cX7_readNumber 38 = .ok (.imul, 1) := by decide +kernel
theorem dX7_readNumber_39 : decode cX7_readNumber 39 = .ok (.aload_n 0, 1) := by decide +kernel
theorem dX7_readNumber_40 : decode cX7_readNumber 40 = .ok (.getfield 9, 3) := by decide +kernel
theorem dX7_readNumber_43 : decode cX7_readNumber 43 = .ok (.aload_n 0, 1) := by decide +kernel
theorem dX7_readNumber_44 : decode cX7_readNumber 44 = .ok (.getfield 19, 3) := by decide +kernel
theorem dX7_readNumber_47 : decode cX7_readNumber 47 = .ok (.baload, 1) := by decide +kernel
theorem dX7_readNumber_48 : decode cX7_readNumber 48 = .ok (.bipush 48, 2) := by decide +kernel
theorem dX7_readNumber_50 : decode cX7_readNumber 50 = .ok (.isub, 1) := by decide +kernel
theorem dX7_readNumber_51 : decode cX7_readNumber 51 = .ok (.iadd, 1) := by decide +kernel
theorem dX7_readNumber_52 : decode cX7_readNumber 52 = .ok (.putfield 51, 3) := by decide +kernel
theorem dX7_readNumber_55 : decode cX7_readNumber 55 = .ok (.aload_n 0, 1) := by decide +kernel
theorem dX7_readNumber_56 : decode cX7_readNumber 56 = .ok (.dup, 1) := by decide +kernel
theorem dX7_readNumber_57 : decode cX7_readNumber 57 = .ok (.getfield 19, 3) := by decide +kernel
theorem dX7_readNumber_60 : decode cX7_readNumber 60 = .ok (.iconst 1, 1) := by decide +kernel
theorem dX7_readNumber_61 : decode cX7_readNumber 61 = .ok (.iadd, 1) := by decide +kernel
theorem dX7_readNumber_62 : decode cX7_readNumber 62 = .ok (.putfield 19, 3) := by decide +kernel
theorem dX7_readNumber_65 : decode cX7_readNumber 65 = .ok (.goto (-60), 3) := by decide +kernel
theorem dX7_readNumber_68 : decode cX7_readNumber 68 = .ok (.aload_n 0, 1) := by decide +kernel
theorem dX7_readNumber_69 : decode cX7_readNumber 69 = .ok (.aload_n 0, 1) := by decide +kernel
theorem dX7_readNumber_70 : decode cX7_readNumber 70 = .ok (.getfield 19, 3) := by decide +kernel
theorem dX7_readNumber_73 : decode cX7_readNumber 73 = .ok (.aload_n 0, 1) := by decide +kernel
theorem dX7_readNumber_74 : decode cX7_readNumber 74 = .ok (.getfield 28, 3) := by decide +kernel
theorem dX7_readNumber_77 : decode cX7_readNumber 77 = .ok (.isub, 1) := by decide +kernel
theorem dX7_readNumber_78 : decode cX7_readNumber 78 = .ok (.iconst 2, 1) := by decide +kernel
theorem dX7_readNumber_79 : decode cX7_readNumber 79 = .ok (.if_icmp .gt 7, 3) := by decide +kernel
theorem dX7_readNumber_82 : decode cX7_readNumber 82 = .ok (.iconst 3, 1) := by decide +kernel
theorem dX7_readNumber_83 : decode cX7_readNumber 83 = .ok (.goto 4, 3) := by decide +kernel
theorem dX7_readNumber_86 : decode cX7_readNumber 86 = .ok (.iconst 0, 1) := by decide +kernel
theorem dX7_readNumber_87 : decode cX7_readNumber 87 = .ok (.putfield 31, 3) := by decide +kernel
theorem dX7_readNumber_90 : decode cX7_readNumber 90 = .ok (.return_, 1) := by decide +kernel
theorem dX7_keyword_0 : decode cX7_keyword 0 = .ok (.aload_n 0, 1) := by decide +kernel
theorem dX7_keyword_1 : decode cX7_keyword 1 = .ok (.ldc 54, 2) := by decide +kernel
theorem dX7_keyword_3 : decode cX7_keyword 3 = .ok (.invokevirtual 56, 3) := by decide +kernel
theorem dX7_keyword_6 : decode cX7_keyword 6 = .ok (.ifCond .eq 5, 3) := by decide +kernel
theorem dX7_keyword_9 : decode cX7_keyword 9 = .ok (.iconst 4, 1) := by decide +kernel
theorem dX7_keyword_10 : decode cX7_keyword 10 = .ok (.ireturn, 1) := by decide +kernel
theorem dX7_keyword_11 : decode cX7_keyword 11 = .ok (.aload_n 0, 1) := by decide +kernel
theorem dX7_keyword_12 : decode cX7_keyword 12 = .ok (.ldc 60, 2) := by decide +kernel
theorem dX7_keyword_14 : decode cX7_keyword 14 = .ok (.invokevirtual 56, 3) := by decide +kernel
theorem dX7_keyword_17 : decode cX7_keyword 17 = .ok (.ifCond .eq 5, 3) := by decide +kernel
theorem dX7_keyword_20 : decode cX7_keyword 20 = .ok (.iconst 5, 1) := by decide +kernel
theorem dX7_keyword_21 : decode cX7_keyword 21 = .ok (.ireturn, 1) := by decide +kernel
theorem dX7_keyword_22 : decode cX7_keyword 22 = .ok (.aload_n 0, 1) := by decide +kernel
theorem dX7_keyword_23 : decode cX7_keyword 23 = .ok (.ldc 62, 2) := by decide +kernel
theorem dX7_keyword_25 : decode cX7_keyword 25 = .ok (.invokevirtual 56, 3) := by decide +kernel
theorem dX7_keyword_28 : decode cX7_keyword 28 = .ok (.ifCond .eq 6, 3) := by decide +kernel
theorem dX7_keyword_31 : decode cX7_keyword 31 = .ok (.bipush 6, 2) := by decide +kernel
theorem dX7_keyword_33 : decode cX7_keyword 33 = .ok (.ireturn, 1) := by decide +kernel
theorem dX7_keyword_34 : decode cX7_keyword 34 = .ok (.aload_n 0, 1) := by decide +kernel
theorem dX7_keyword_35 : decode cX7_keyword 35 = .ok (.ldc 64, 2) := by decide +kernel
theorem dX7_keyword_37 : decode cX7_keyword 37 = .ok (.invokevirtual 56, 3) := by decide +kernel
theorem dX7_keyword_40 : decode cX7_keyword 40 = .ok (.ifCond .eq 6, 3) := by decide +kernel
theorem dX7_keyword_43 : decode cX7_keyword 43 = .ok (.bipush 7, 2) := by decide +kernel
theorem dX7_keyword_45 : decode cX7_keyword 45 = .ok (.ireturn, 1) := by decide +kernel
theorem dX7_keyword_46 : decode cX7_keyword 46 = .ok (.aload_n 0, 1) := by decide +kernel
theorem dX7_keyword_47 : decode cX7_keyword 47 = .ok (.ldc 66, 2) := by decide +kernel
theorem dX7_keyword_49 : decode cX7_keyword 49 = .ok (.invokevirtual 56, 3) := by decide +kernel
theorem dX7_keyword_52 : decode cX7_keyword 52 = .ok (.ifCond .eq 6, 3) := by decide +kernel
theorem dX7_keyword_55 : decode cX7_keyword 55 = .ok (.bipush 8, 2) := by decide +kernel
theorem dX7_keyword_57 : decode cX7_keyword 57 = .ok (.ireturn, 1) := by decide +kernel
theorem dX7_keyword_58 : decode cX7_keyword 58 = .ok (.aload_n 0, 1) := by decide +kernel
theorem dX7_keyword_59 : decode cX7_keyword 59 = .ok (.ldc 68, 2) := by decide +kernel
theorem dX7_keyword_61 : decode cX7_keyword 61 = .ok (.invokevirtual 56, 3) := by decide +kernel
theorem dX7_keyword_64 : decode cX7_keyword 64 = .ok (.ifCond .eq 6, 3) := by decide +kernel
theorem dX7_keyword_67 : decode cX7_keyword 67 = .ok (.bipush 9, 2) := by decide +kernel
theorem dX7_keyword_69 : decode cX7_keyword 69 = .ok (.ireturn, 1) := by decide +kernel
theorem dX7_keyword_70 : decode cX7_keyword 70 = .ok (.aload_n 0, 1) := by decide +kernel
theorem dX7_keyword_71 : decode cX7_keyword 71 = .ok (.ldc 70, 2) := by decide +kernel
theorem dX7_keyword_73 : decode cX7_keyword 73 = .ok (.invokevirtual 56, 3) := by decide +kernel
theorem dX7_keyword_76 : decode cX7_keyword 76 = .ok (.ifCond .eq 6, 3) := by decide +kernel
theorem dX7_keyword_79 : decode cX7_keyword 79 = .ok (.bipush 10, 2) := by decide +kernel
theorem dX7_keyword_81 : decode cX7_keyword 81 = .ok (.ireturn, 1) := by decide +kernel
theorem dX7_keyword_82 : decode cX7_keyword 82 = .ok (.aload_n 0, 1) := by decide +kernel
theorem dX7_keyword_83 : decode cX7_keyword 83 = .ok (.ldc 72, 2) := by decide +kernel
theorem dX7_keyword_85 : decode cX7_keyword 85 = .ok (.invokevirtual 56, 3) := by decide +kernel
theorem dX7_keyword_88 : decode cX7_keyword 88 = .ok (.ifCond .eq 8, 3) := by decide +kernel
theorem dX7_keyword_91 : decode cX7_keyword 91 = .ok (.bipush 11, 2) := by decide +kernel
theorem dX7_keyword_93 : decode cX7_keyword 93 = .ok (.goto 4, 3) := by decide +kernel
theorem dX7_keyword_96 : decode cX7_keyword 96 = .ok (.iconst 0, 1) := by decide +kernel
theorem dX7_keyword_97 : decode cX7_keyword 97 = .ok (.ireturn, 1) := by decide +kernel
theorem dX7_isWord_0 : decode cX7_isWord 0 = .ok (.aload_n 0, 1) := by decide +kernel
theorem dX7_isWord_1 : decode cX7_isWord 1 = .ok (.getfield 19, 3) := by decide +kernel
theorem dX7_isWord_4 : decode cX7_isWord 4 = .ok (.aload_n 0, 1) := by decide +kernel
theorem dX7_isWord_5 : decode cX7_isWord 5 = .ok (.getfield 28, 3) := by decide +kernel
theorem dX7_isWord_8 : decode cX7_isWord 8 = .ok (.isub, 1) := by decide +kernel
theorem dX7_isWord_9 : decode cX7_isWord 9 = .ok (.aload_n 1, 1) := by decide +kernel
theorem dX7_isWord_10 : decode cX7_isWord 10 = .ok (.invokevirtual 74, 3) := by decide +kernel
theorem dX7_isWord_13 : decode cX7_isWord 13 = .ok (.if_icmp .eq 5, 3) := by decide +kernel
theorem dX7_isWord_16 : decode cX7_isWord 16 = .ok (.iconst 0, 1) := by decide +kernel
theorem dX7_isWord_17 : decode cX7_isWord 17 = .ok (.ireturn, 1) := by decide +kernel
theorem dX7_isWord_18 : decode cX7_isWord 18 = .ok (.iconst 0, 1) := by decide +kernel
theorem dX7_isWord_19 : decode cX7_isWord 19 = .ok (.istore_n 2, 1) := by decide +kernel
theorem dX7_isWord_20 : decode cX7_isWord 20 = .ok (.iload_n 2, 1) := by decide +kernel
theorem dX7_isWord_21 : decode cX7_isWord 21 = .ok (.aload_n 1, 1) := by decide +kernel
theorem dX7_isWord_22 : decode cX7_isWord 22 = .ok (.invokevirtual 74, 3) := by decide +kernel
theorem dX7_isWord_25 : decode cX7_isWord 25 = .ok (.if_icmp .ge 30, 3) := by decide +kernel
theorem dX7_isWord_28 : decode cX7_isWord 28 = .ok (.aload_n 0, 1) := by decide +kernel
theorem dX7_isWord_29 : decode cX7_isWord 29 = .ok (.getfield 9, 3) := by decide +kernel
theorem dX7_isWord_32 : decode cX7_isWord 32 = .ok (.aload_n 0, 1) := by decide +kernel
theorem dX7_isWord_33 : decode cX7_isWord 33 = .ok (.getfield 28, 3) := by decide +kernel
theorem dX7_isWord_36 : decode cX7_isWord 36 = .ok (.iload_n 2, 1) := by decide +kernel
theorem dX7_isWord_37 : decode cX7_isWord 37 = .ok (.iadd, 1) := by decide +kernel
theorem dX7_isWord_38 : decode cX7_isWord 38 = .ok (.baload, 1) := by decide +kernel
theorem dX7_isWord_39 : decode cX7_isWord 39 = .ok (.aload_n 1, 1) := by decide +kernel
theorem dX7_isWord_40 : decode cX7_isWord 40 = .ok (.iload_n 2, 1) := by decide +kernel
theorem dX7_isWord_41 : decode cX7_isWord 41 = .ok (.invokevirtual 78, 3) := by decide +kernel
theorem dX7_isWord_44 : decode cX7_isWord 44 = .ok (.if_icmp .eq 5, 3) := by decide +kernel
theorem dX7_isWord_47 : decode cX7_isWord 47 = .ok (.iconst 0, 1) := by decide +kernel
theorem dX7_isWord_48 : decode cX7_isWord 48 = .ok (.ireturn, 1) := by decide +kernel
theorem dX7_isWord_49 : decode cX7_isWord 49 = .ok (.iinc 2 1, 3) := by decide +kernel
theorem dX7_isWord_52 : decode cX7_isWord 52 = .ok (.goto (-32), 3) := by decide +kernel
theorem dX7_isWord_55 : decode cX7_isWord 55 = .ok (.iconst 1, 1) := by decide +kernel
theorem dX7_isWord_56 : decode cX7_isWord 56 = .ok (.ireturn, 1) := by decide +kernel
theorem dX7_isLetter_0 : decode cX7_isLetter 0 = .ok (.iload_n 0, 1) := by decide +kernel
theorem dX7_isLetter_1 : decode cX7_isLetter 1 = .ok (.bipush 97, 2) := by decide +kernel
theorem dX7_isLetter_3 : decode cX7_isLetter 3 = .ok (.if_icmp .lt 9, 3) := by decide +kernel
theorem dX7_isLetter_6 : decode cX7_isLetter 6 = .ok (.iload_n 0, 1) := by decide +kernel
theorem dX7_isLetter_7 : decode cX7_isLetter 7 = .ok (.bipush 122, 2) := by decide +kernel
theorem dX7_isLetter_9 : decode cX7_isLetter 9 = .ok (.if_icmp .le 15, 3) := by decide +kernel
theorem dX7_isLetter_12 : decode cX7_isLetter 12 = .ok (.iload_n 0, 1) := by decide +kernel
theorem dX7_isLetter_13 : decode cX7_isLetter 13 = .ok (.bipush 65, 2) := by decide +kernel
theorem dX7_isLetter_15 : decode cX7_isLetter 15 = .ok (.if_icmp .lt 13, 3) := by decide +kernel
theorem dX7_isLetter_18 : decode cX7_isLetter 18 = .ok (.iload_n 0, 1) := by decide +kernel
theorem dX7_isLetter_19 : decode cX7_isLetter 19 = .ok (.bipush 90, 2) := by decide +kernel
theorem dX7_isLetter_21 : decode cX7_isLetter 21 = .ok (.if_icmp .gt 7, 3) := by decide +kernel
theorem dX7_isLetter_24 : decode cX7_isLetter 24 = .ok (.iconst 1, 1) := by decide +kernel
theorem dX7_isLetter_25 : decode cX7_isLetter 25 = .ok (.goto 4, 3) := by decide +kernel
theorem dX7_isLetter_28 : decode cX7_isLetter 28 = .ok (.iconst 0, 1) := by decide +kernel
theorem dX7_isLetter_29 : decode cX7_isLetter 29 = .ok (.ireturn, 1) := by decide +kernel
theorem dX7_isDigit_0 : decode cX7_isDigit 0 = .ok (.iload_n 0, 1) := by decide +kernel
theorem dX7_isDigit_1 : decode cX7_isDigit 1 = .ok (.bipush 48, 2) := by decide +kernel
theorem dX7_isDigit_3 : decode cX7_isDigit 3 = .ok (.if_icmp .lt 13, 3) := by decide +kernel
theorem dX7_isDigit_6 : decode cX7_isDigit 6 = .ok (.iload_n 0, 1) := by decide +kernel
theorem dX7_isDigit_7 : decode cX7_isDigit 7 = .ok (.bipush 57, 2) := by decide +kernel
theorem dX7_isDigit_9 : decode cX7_isDigit 9 = .ok (.if_icmp .gt 7, 3) := by decide +kernel
theorem dX7_isDigit_12 : decode cX7_isDigit 12 = .ok (.iconst 1, 1) := by decide +kernel
theorem dX7_isDigit_13 : decode cX7_isDigit 13 = .ok (.goto 4, 3) := by decide +kernel
theorem dX7_isDigit_16 : decode cX7_isDigit 16 = .ok (.iconst 0, 1) := by decide +kernel
theorem dX7_isDigit_17 : decode cX7_isDigit 17 = .ok (.ireturn, 1) := by decide +kernel
theorem dJ0_length_8abf5_0 : decode cJ0_length_8abf5 0 = .ok (.aload_n 0, 1) := by decide +kernel
theorem dJ0_length_8abf5_1 : decode cJ0_length_8abf5 1 = .ok (.getfield 9, 3) := by decide +kernel
theorem dJ0_length_8abf5_4 : decode cJ0_length_8abf5 4 = .ok (.arraylength, 1) := by decide +kernel
theorem dJ0_length_8abf5_5 : decode cJ0_length_8abf5 5 = .ok (.aload_n 0, 1) := by decide +kernel
theorem dJ0_length_8abf5_6 : decode cJ0_length_8abf5 6 = .ok (.invokevirtual 335, 3) := by decide +kernel
theorem dJ0_length_8abf5_9 : decode cJ0_length_8abf5 9 = .ok (.ishr, 1) := by decide +kernel
theorem dJ0_length_8abf5_10 : decode cJ0_length_8abf5 10 = .ok (.ireturn, 1) := by decide +kernel
theorem dJ0_charAt_5068e_0 : decode cJ0_charAt_5068e 0 = .ok (.aload_n 0, 1) := by decide +kernel
theorem dJ0_charAt_5068e_1 : decode cJ0_charAt_5068e 1 = .ok (.invokevirtual 492, 3) := by decide +kernel
theorem dJ0_charAt_5068e_4 : decode cJ0_charAt_5068e 4 = .ok (.ifCond .eq 12, 3) := by decide +kernel
theorem dJ0_charAt_5068e_7 : decode cJ0_charAt_5068e 7 = .ok (.aload_n 0, 1) := by decide +kernel
theorem dJ0_charAt_5068e_8 : decode cJ0_charAt_5068e 8 = .ok (.getfield 9, 3) := by decide +kernel
theorem dJ0_charAt_5068e_11 : decode cJ0_charAt_5068e 11 = .ok (.iload_n 1, 1) := by decide +kernel
theorem dJ0_charAt_5068e_12 : decode cJ0_charAt_5068e 12 = .ok (.invokestatic 495, 3) := by decide +kernel
theorem dJ0_charAt_5068e_15 : decode cJ0_charAt_5068e 15 = .ok (.ireturn, 1) := by decide +kernel
theorem dJ0_charAt_5068e_16 : decode cJ0_charAt_5068e 16 = .ok (.aload_n 0, 1) := by decide +kernel
theorem dJ0_charAt_5068e_17 : decode cJ0_charAt_5068e 17 = .ok (.getfield 9, 3) := by decide +kernel
theorem dJ0_charAt_5068e_20 : decode cJ0_charAt_5068e 20 = .ok (.iload_n 1, 1) := by decide +kernel
theorem dJ0_charAt_5068e_21 : decode cJ0_charAt_5068e 21 = .ok (.invokestatic 498, 3) := by decide +kernel
theorem dJ0_charAt_5068e_24 : decode cJ0_charAt_5068e 24 = .ok (.ireturn, 1) := by decide +kernel
theorem dJ0_coder_7d493_0 : decode cJ0_coder_7d493 0 = .ok (.getstatic 38, 3) := by decide +kernel
theorem dJ0_coder_7d493_3 : decode cJ0_coder_7d493 3 = .ok (.ifCond .eq 10, 3) := by decide +kernel
theorem dJ0_coder_7d493_6 : decode cJ0_coder_7d493 6 = .ok (.aload_n 0, 1) := by decide +kernel
theorem dJ0_coder_7d493_7 : decode cJ0_coder_7d493 7 = .ok (.getfield 15, 3) := by decide +kernel
theorem dJ0_coder_7d493_10 : decode cJ0_coder_7d493 10 = .ok (.goto 4, 3) := by decide +kernel
theorem dJ0_coder_7d493_13 : decode cJ0_coder_7d493 13 = .ok (.iconst 1, 1) := by decide +kernel
theorem dJ0_coder_7d493_14 : decode cJ0_coder_7d493 14 = .ok (.ireturn, 1) := by decide +kernel
theorem dJ0_isLatin1_aae02_0 : decode cJ0_isLatin1_aae02 0 = .ok (.getstatic 38, 3) := by decide +kernel
theorem dJ0_isLatin1_aae02_3 : decode cJ0_isLatin1_aae02 3 = .ok (.ifCond .eq 14, 3) := by decide +kernel
theorem dJ0_isLatin1_aae02_6 : decode cJ0_isLatin1_aae02 6 = .ok (.aload_n 0, 1) := by decide +kernel
theorem dJ0_isLatin1_aae02_7 : decode cJ0_isLatin1_aae02 7 = .ok (.getfield 15, 3) := by decide +kernel
theorem dJ0_isLatin1_aae02_10 : decode cJ0_isLatin1_aae02 10 = .ok (.ifCond .ne 7, 3) := by decide +kernel
theorem dJ0_isLatin1_aae02_13 : decode cJ0_isLatin1_aae02 13 = .ok (.iconst 1, 1) := by decide +kernel
theorem dJ0_isLatin1_aae02_14 : decode cJ0_isLatin1_aae02 14 = .ok (.goto 4, 3) := by decide +kernel
theorem dJ0_isLatin1_aae02_17 : decode cJ0_isLatin1_aae02 17 = .ok (.iconst 0, 1) := by decide +kernel
theorem dJ0_isLatin1_aae02_18 : decode cJ0_isLatin1_aae02 18 = .ok (.ireturn, 1) := by decide +kernel
theorem dJ0_checkIndex_df160_0 : decode cJ0_checkIndex_df160 0 = .ok (.iload_n 0, 1) := by decide +kernel
theorem dJ0_checkIndex_df160_1 : decode cJ0_checkIndex_df160 1 = .ok (.iload_n 1, 1) := by decide +kernel
theorem dJ0_checkIndex_df160_2 : decode cJ0_checkIndex_df160 2 = .ok (.getstatic 1053, 3) := by decide +kernel
theorem dJ0_checkIndex_df160_5 : decode cJ0_checkIndex_df160 5 = .ok (.invokestatic 1059, 3) := by decide +kernel
theorem dJ0_checkIndex_df160_8 : decode cJ0_checkIndex_df160 8 = .ok (.pop, 1) := by decide +kernel
theorem dJ0_checkIndex_df160_9 : decode cJ0_checkIndex_df160 9 = .ok (.return_, 1) := by decide +kernel
theorem dJ1_charAt_3b067_0 : decode cJ1_charAt_3b067 0 = .ok (.iload_n 1, 1) := by decide +kernel
theorem dJ1_charAt_3b067_1 : decode cJ1_charAt_3b067 1 = .ok (.aload_n 0, 1) := by decide +kernel
theorem dJ1_charAt_3b067_2 : decode cJ1_charAt_3b067 2 = .ok (.arraylength, 1) := by decide +kernel
theorem dJ1_charAt_3b067_3 : decode cJ1_charAt_3b067 3 = .ok (.invokestatic 9, 3) := by decide +kernel
theorem dJ1_charAt_3b067_6 : decode cJ1_charAt_3b067 6 = .ok (.aload_n 0, 1) := by decide +kernel
theorem dJ1_charAt_3b067_7 : decode cJ1_charAt_3b067 7 = .ok (.iload_n 1, 1) := by decide +kernel
theorem dJ1_charAt_3b067_8 : decode cJ1_charAt_3b067 8 = .ok (.baload, 1) := by decide +kernel
theorem dJ1_charAt_3b067_9 : decode cJ1_charAt_3b067 9 = .ok (.sipush 255, 3) := by decide +kernel
theorem dJ1_charAt_3b067_12 : decode cJ1_charAt_3b067 12 = .ok (.iand, 1) := by decide +kernel
theorem dJ1_charAt_3b067_13 : decode cJ1_charAt_3b067 13 = .ok (.i2c, 1) := by decide +kernel
theorem dJ1_charAt_3b067_14 : decode cJ1_charAt_3b067 14 = .ok (.ireturn, 1) := by decide +kernel
theorem dJ2_getChar_3b067_0 : decode cJ2_getChar_3b067 0 = .ok (.getstatic 44, 3) := by decide +kernel
theorem dJ2_getChar_3b067_3 : decode cJ2_getChar_3b067 3 = .ok (.ifCond .ne 25, 3) := by decide +kernel
theorem dJ2_getChar_3b067_6 : decode cJ2_getChar_3b067 6 = .ok (.iload_n 1, 1) := by decide +kernel
theorem dJ2_getChar_3b067_7 : decode cJ2_getChar_3b067 7 = .ok (.ifCond .lt 11, 3) := by decide +kernel
theorem dJ2_getChar_3b067_10 : decode cJ2_getChar_3b067 10 = .ok (.iload_n 1, 1) := by decide +kernel
theorem dJ2_getChar_3b067_11 : decode cJ2_getChar_3b067 11 = .ok (.aload_n 0, 1) := by decide +kernel
theorem dJ2_getChar_3b067_12 : decode cJ2_getChar_3b067 12 = .ok (.invokestatic 48, 3) := by decide +kernel
theorem dJ2_getChar_3b067_15 : decode cJ2_getChar_3b067 15 = .ok (.if_icmp .lt 13, 3) := by decide +kernel
theorem dJ2_getChar_3b067_18 : decode cJ2_getChar_3b067 18 = .ok (.new 52, 3) := by decide +kernel
theorem dJ2_getChar_3b067_21 : decode cJ2_getChar_3b067 21 = .ok (.dup, 1) := by decide +kernel
theorem dJ2_getChar_3b067_22 : decode cJ2_getChar_3b067 22 = .ok (.ldc 54, 2) := by decide +kernel
theorem dJ2_getChar_3b067_24 : decode cJ2_getChar_3b067 24 = .ok (.invokespecial 56, 3) := by decide +kernel
theorem dJ2_getChar_3b067_27 : decode cJ2_getChar_3b067 27 = .ok (.athrow, 1) := by decide +kernel
theorem dJ2_getChar_3b067_28 : decode cJ2_getChar_3b067 28 = .ok (.iload_n 1, 1) := by decide +kernel
theorem dJ2_getChar_3b067_29 : decode cJ2_getChar_3b067 29 = .ok (.iconst 1, 1) := by decide +kernel
theorem dJ2_getChar_3b067_30 : decode cJ2_getChar_3b067 30 = .ok (.ishl, 1) := by decide +kernel
theorem dJ2_getChar_3b067_31 : decode cJ2_getChar_3b067 31 = .ok (.istore_n 1, 1) := by decide +kernel
theorem dJ2_getChar_3b067_32 : decode cJ2_getChar_3b067 32 = .ok (.aload_n 0, 1) := by decide +kernel
theorem dJ2_getChar_3b067_33 : decode cJ2_getChar_3b067 33 = .ok (.iload_n 1, 1) := by decide +kernel
theorem dJ2_getChar_3b067_34 : decode cJ2_getChar_3b067 34 = .ok (.iinc 1 1, 3) := by decide +kernel
theorem dJ2_getChar_3b067_37 : decode cJ2_getChar_3b067 37 = .ok (.baload, 1) := by decide +kernel
theorem dJ2_getChar_3b067_38 : decode cJ2_getChar_3b067 38 = .ok (.sipush 255, 3) := by decide +kernel
theorem dJ2_getChar_3b067_41 : decode cJ2_getChar_3b067 41 = .ok (.iand, 1) := by decide +kernel
theorem dJ2_getChar_3b067_42 : decode cJ2_getChar_3b067 42 = .ok (.getstatic 59, 3) := by decide +kernel
theorem dJ2_getChar_3b067_45 : decode cJ2_getChar_3b067 45 = .ok (.ishl, 1) := by decide +kernel
theorem dJ2_getChar_3b067_46 : decode cJ2_getChar_3b067 46 = .ok (.aload_n 0, 1) := by decide +kernel
theorem dJ2_getChar_3b067_47 : decode cJ2_getChar_3b067 47 = .ok (.iload_n 1, 1) := by decide +kernel
theorem dJ2_getChar_3b067_48 : decode cJ2_getChar_3b067 48 = .ok (.baload, 1) := by decide +kernel
theorem dJ2_getChar_3b067_49 : decode cJ2_getChar_3b067 49 = .ok (.sipush 255, 3) := by decide +kernel
theorem dJ2_getChar_3b067_52 : decode cJ2_getChar_3b067 52 = .ok (.iand, 1) := by decide +kernel
theorem dJ2_getChar_3b067_53 : decode cJ2_getChar_3b067 53 = .ok (.getstatic 63, 3) := by decide +kernel
theorem dJ2_getChar_3b067_56 : decode cJ2_getChar_3b067 56 = .ok (.ishl, 1) := by decide +kernel
theorem dJ2_getChar_3b067_57 : decode cJ2_getChar_3b067 57 = .ok (.ior, 1) := by decide +kernel
theorem dJ2_getChar_3b067_58 : decode cJ2_getChar_3b067 58 = .ok (.i2c, 1) := by decide +kernel
theorem dJ2_getChar_3b067_59 : decode cJ2_getChar_3b067 59 = .ok (.ireturn, 1) := by decide +kernel
theorem dJ2_length_9d52b_0 : decode cJ2_length_9d52b 0 = .ok (.aload_n 0, 1) := by decide +kernel
theorem dJ2_length_9d52b_1 : decode cJ2_length_9d52b 1 = .ok (.arraylength, 1) := by decide +kernel
theorem dJ2_length_9d52b_2 : decode cJ2_length_9d52b 2 = .ok (.iconst 1, 1) := by decide +kernel
theorem dJ2_length_9d52b_3 : decode cJ2_length_9d52b 3 = .ok (.ishr, 1) := by decide +kernel
theorem dJ2_length_9d52b_4 : decode cJ2_length_9d52b 4 = .ok (.ireturn, 1) := by decide +kernel
theorem dJ2_charAt_3b067_0 : decode cJ2_charAt_3b067 0 = .ok (.iload_n 1, 1) := by decide +kernel
theorem dJ2_charAt_3b067_1 : decode cJ2_charAt_3b067 1 = .ok (.aload_n 0, 1) := by decide +kernel
theorem dJ2_charAt_3b067_2 : decode cJ2_charAt_3b067 2 = .ok (.invokestatic 67, 3) := by decide +kernel
theorem dJ2_charAt_3b067_5 : decode cJ2_charAt_3b067 5 = .ok (.aload_n 0, 1) := by decide +kernel
theorem dJ2_charAt_3b067_6 : decode cJ2_charAt_3b067 6 = .ok (.iload_n 1, 1) := by decide +kernel
theorem dJ2_charAt_3b067_7 : decode cJ2_charAt_3b067 7 = .ok (.invokestatic 71, 3) := by decide +kernel
theorem dJ2_charAt_3b067_10 : decode cJ2_charAt_3b067 10 = .ok (.ireturn, 1) := by decide +kernel
theorem dJ2_checkIndex_2214a_0 : decode cJ2_checkIndex_2214a 0 = .ok (.iload_n 0, 1) := by decide +kernel
theorem dJ2_checkIndex_2214a_1 : decode cJ2_checkIndex_2214a 1 = .ok (.aload_n 1, 1) := by decide +kernel
theorem dJ2_checkIndex_2214a_2 : decode cJ2_checkIndex_2214a 2 = .ok (.invokestatic 48, 3) := by decide +kernel
theorem dJ2_checkIndex_2214a_5 : decode cJ2_checkIndex_2214a 5 = .ok (.invokestatic 414, 3) := by decide +kernel
theorem dJ2_checkIndex_2214a_8 : decode cJ2_checkIndex_2214a 8 = .ok (.return_, 1) := by decide +kernel
theorem dJ3_checkIndex_8e157_0 : decode cJ3_checkIndex_8e157 0 = .ok (.iload_n 0, 1) := by decide +kernel
theorem dJ3_checkIndex_8e157_1 : decode cJ3_checkIndex_8e157 1 = .ok (.ifCond .lt 8, 3) := by decide +kernel
theorem dJ3_checkIndex_8e157_4 : decode cJ3_checkIndex_8e157 4 = .ok (.iload_n 0, 1) := by decide +kernel
theorem dJ3_checkIndex_8e157_5 : decode cJ3_checkIndex_8e157 5 = .ok (.iload_n 1, 1) := by decide +kernel
theorem dJ3_checkIndex_8e157_6 : decode cJ3_checkIndex_8e157 6 = .ok (.if_icmp .lt 10, 3) := by decide +kernel
theorem dJ3_checkIndex_8e157_9 : decode cJ3_checkIndex_8e157 9 = .ok (.aload_n 2, 1) := by decide +kernel
theorem dJ3_checkIndex_8e157_10 : decode cJ3_checkIndex_8e157 10 = .ok (.iload_n 0, 1) := by decide +kernel
theorem dJ3_checkIndex_8e157_11 : decode cJ3_checkIndex_8e157 11 = .ok (.iload_n 1, 1) := by decide +kernel
theorem dJ3_checkIndex_8e157_12 : decode cJ3_checkIndex_8e157 12 = .ok (.invokestatic 95, 3) := by decide +kernel
theorem dJ3_checkIndex_8e157_15 : decode cJ3_checkIndex_8e157 15 = .ok (.athrow, 1) := by decide +kernel
theorem dJ3_checkIndex_8e157_16 : decode cJ3_checkIndex_8e157 16 = .ok (.iload_n 0, 1) := by decide +kernel
theorem dJ3_checkIndex_8e157_17 : decode cJ3_checkIndex_8e157 17 = .ok (.ireturn, 1) := by decide +kernel
theorem dJ9_max_7cf53_0 : decode cJ9_max_7cf53 0 = .ok (.iload_n 0, 1) := by decide +kernel
theorem dJ9_max_7cf53_1 : decode cJ9_max_7cf53 1 = .ok (.iload_n 1, 1) := by decide +kernel
theorem dJ9_max_7cf53_2 : decode cJ9_max_7cf53 2 = .ok (.if_icmp .lt 7, 3) := by decide +kernel
theorem dJ9_max_7cf53_5 : decode cJ9_max_7cf53 5 = .ok (.iload_n 0, 1) := by decide +kernel
theorem dJ9_max_7cf53_6 : decode cJ9_max_7cf53 6 = .ok (.goto 4, 3) := by decide +kernel
theorem dJ9_max_7cf53_9 : decode cJ9_max_7cf53 9 = .ok (.iload_n 1, 1) := by decide +kernel
theorem dJ9_max_7cf53_10 : decode cJ9_max_7cf53 10 = .ok (.ireturn, 1) := by decide +kernel
theorem dJ9_min_7cf53_0 : decode cJ9_min_7cf53 0 = .ok (.iload_n 0, 1) := by decide +kernel
theorem dJ9_min_7cf53_1 : decode cJ9_min_7cf53 1 = .ok (.iload_n 1, 1) := by decide +kernel
theorem dJ9_min_7cf53_2 : decode cJ9_min_7cf53 2 = .ok (.if_icmp .gt 7, 3) := by decide +kernel
theorem dJ9_min_7cf53_5 : decode cJ9_min_7cf53 5 = .ok (.iload_n 0, 1) := by decide +kernel
theorem dJ9_min_7cf53_6 : decode cJ9_min_7cf53 6 = .ok (.goto 4, 3) := by decide +kernel
theorem dJ9_min_7cf53_9 : decode cJ9_min_7cf53 9 = .ok (.iload_n 1, 1) := by decide +kernel
theorem dJ9_min_7cf53_10 : decode cJ9_min_7cf53 10 = .ok (.ireturn, 1) := by decide +kernel
end
section
theorem dX4_init_0 : decode cX4_init 0 = .ok (.aload_n 0, 1) := by decide +kernel
theorem dX4_init_1 : decode cX4_init 1 = .ok (.invokespecial 3, 3) := by decide +kernel
theorem dX4_init_4 : decode cX4_init 4 = .ok (.aload_n 0, 1) := by decide +kernel
theorem dX4_init_5 : decode cX4_init 5 = .ok (.bipush 7, 2) := by decide +kernel
theorem dX4_init_7 : decode cX4_init 7 = .ok (.newarray .int, 2) := by decide +kernel
theorem dX4_init_9 : decode cX4_init 9 = .ok (.putfield 9, 3) := by decide +kernel
theorem dX4_init_12 : decode cX4_init 12 = .ok (.aload_n 0, 1) := by decide +kernel
theorem dX4_init_13 : decode cX4_init 13 = .ok (.bipush 7, 2) := by decide +kernel
theorem dX4_init_15 : decode cX4_init 15 = .ok (.newarray .int, 2) := by decide +kernel
theorem dX4_init_17 : decode cX4_init 17 = .ok (.putfield 15, 3) := by decide +kernel
theorem dX4_init_20 : decode cX4_init 20 = .ok (.aload_n 0, 1) := by decide +kernel
theorem dX4_init_21 : decode cX4_init 21 = .ok (.bipush 7, 2) := by decide +kernel
theorem dX4_init_23 : decode cX4_init 23 = .ok (.newarray .int, 2) := by decide +kernel
theorem dX4_init_25 : decode cX4_init 25 = .ok (.putfield 18, 3) := by decide +kernel
theorem dX4_init_28 : decode cX4_init 28 = .ok (.aload_n 0, 1) := by decide +kernel
theorem dX4_init_29 : decode cX4_init 29 = .ok (.bipush 7, 2) := by decide +kernel
theorem dX4_init_31 : decode cX4_init 31 = .ok (.newarray .int, 2) := by decide +kernel
theorem dX4_init_33 : decode cX4_init 33 = .ok (.putfield 21, 3) := by decide +kernel
theorem dX4_init_36 : decode cX4_init 36 = .ok (.aload_n 0, 1) := by decide +kernel
theorem dX4_init_37 : decode cX4_init 37 = .ok (.new 24, 3) := by decide +kernel
theorem dX4_init_40 : decode cX4_init 40 = .ok (.dup, 1) := by decide +kernel
theorem dX4_init_41 : decode cX4_init 41 = .ok (.invokespecial 26, 3) := by decide +kernel
theorem dX4_init_44 : decode cX4_init 44 = .ok (.putfield 27, 3) := by decide +kernel
theorem dX4_init_47 : decode cX4_init 47 = .ok (.aload_n 0, 1) := by decide +kernel
theorem dX4_init_48 : decode cX4_init 48 = .ok (.sipush 128, 3) := by decide +kernel
theorem dX4_init_51 : decode cX4_init 51 = .ok (.newarray .boolean, 2) := by decide +kernel
theorem dX4_init_53 : decode cX4_init 53 = .ok (.putfield 31, 3) := by decide +kernel
theorem dX4_init_56 : decode cX4_init 56 = .ok (.aload_n 0, 1) := by decide +kernel
theorem dX4_init_57 : decode cX4_init 57 = .ok (.sipush 128, 3) := by decide +kernel
theorem dX4_init_60 : decode cX4_init 60 = .ok (.newarray .int, 2) := by decide +kernel
theorem dX4_init_62 : decode cX4_init 62 = .ok (.putfield 35, 3) := by decide +kernel
theorem dX4_init_65 : decode cX4_init 65 = .ok (.aload_n 0, 1) := by decide +kernel
theorem dX4_init_66 : decode cX4_init 66 = .ok (.sipush 128, 3) := by decide +kernel
theorem dX4_init_69 : decode cX4_init 69 = .ok (.newarray .int, 2) := by decide +kernel
theorem dX4_init_71 : decode cX4_init 71 = .ok (.putfield 38, 3) := by decide +kernel
theorem dX4_init_74 : decode cX4_init 74 = .ok (.aload_n 0, 1) := by decide +kernel
theorem dX4_init_75 : decode cX4_init 75 = .ok (.sipush 128, 3) := by decide +kernel
theorem dX4_init_78 : decode cX4_init 78 = .ok (.newarray .int, 2) := by decide +kernel
theorem dX4_init_80 : decode cX4_init 80 = .ok (.putfield 41, 3) := by decide +kernel
theorem dX4_init_83 : decode cX4_init 83 = .ok (.aload_n 0, 1) := by decide +kernel
theorem dX4_init_84 : decode cX4_init 84 = .ok (.sipush 128, 3) := by decide +kernel
theorem dX4_init_87 : decode cX4_init 87 = .ok (.newarray .long, 2) := by decide +kernel
theorem dX4_init_89 : decode cX4_init 89 = .ok (.putfield 44, 3) := by decide +kernel
theorem dX4_init_92 : decode cX4_init 92 = .ok (.aload_n 0, 1) := by decide +kernel
theorem dX4_init_93 : decode cX4_init 93 = .ok (.sipush 128, 3) := by decide +kernel
theorem dX4_init_96 : decode cX4_init 96 = .ok (.newarray .long, 2) := by decide +kernel
theorem dX4_init_98 : decode cX4_init 98 = .ok (.putfield 48, 3) := by decide +kernel
theorem dX4_init_101 : decode cX4_init 101 = .ok (.aload_n 0, 1) := by decide +kernel
theorem dX4_init_102 : decode cX4_init 102 = .ok (.iconst 4, 1) := by decide +kernel
theorem dX4_init_103 : decode cX4_init 103 = .ok (.sipush 128, 3) := by decide +kernel
theorem dX4_init_106 : decode cX4_init 106 = .ok (.multianewarray 51 2, 4) := by decide +kernel
theorem dX4_init_110 : decode cX4_init 110 = .ok (.putfield 53, 3) := by decide +kernel
theorem dX4_init_113 : decode cX4_init 113 = .ok (.return_, 1) := by decide +kernel
theorem dX4_find_0 : decode cX4_find 0 = .ok (.aload_n 0, 1) := by decide +kernel
theorem dX4_find_1 : decode cX4_find 1 = .ok (.aload_n 2, 1) := by decide +kernel
theorem dX4_find_2 : decode cX4_find 2 = .ok (.iload_n 3, 1) := by decide +kernel
theorem dX4_find_3 : decode cX4_find 3 = .ok (.invokevirtual 56, 3) := by decide +kernel
theorem dX4_find_6 : decode cX4_find 6 = .ok (.iconst 0, 1) := by decide +kernel
theorem dX4_find_7 : decode cX4_find 7 = .ok (.istore 6, 2) := by decide +kernel
theorem dX4_find_9 : decode cX4_find 9 = .ok (.iload 6, 2) := by decide +kernel
theorem dX4_find_11 : decode cX4_find 11 = .ok (.iconst 1, 1) := by decide +kernel
theorem dX4_find_12 : decode cX4_find 12 = .ok (.aload_n 0, 1) := by decide +kernel
theorem dX4_find_13 : decode cX4_find 13 = .ok (.getfield 60, 3) := by decide +kernel
theorem dX4_find_16 : decode cX4_find 16 = .ok (.ishl, 1) := by decide +kernel
theorem dX4_find_17 : decode cX4_find 17 = .ok (.if_icmp .ge 17, 3) := by decide +kernel
theorem dX4_find_20 : decode cX4_find 20 = .ok (.aload_n 0, 1) := by decide +kernel
theorem dX4_find_21 : decode cX4_find 21 = .ok (.getfield 48, 3) := by decide +kernel
theorem dX4_find_24 : decode cX4_find 24 = .ok (.iload 6, 2) := by decide +kernel
theorem dX4_find_26 : decode cX4_find 26 = .ok (.lconst 0, 1) := by decide +kernel
theorem dX4_find_27 : decode cX4_find 27 = .ok (.lastore, 1) := by decide +kernel
theorem dX4_find_28 : decode cX4_find 28 = .ok (.iinc 6 1, 3) := by decide +kernel
theorem dX4_find_31 : decode cX4_find 31 = .ok (.goto (-22), 3) := by decide +kernel
theorem dX4_find_34 : decode cX4_find 34 = .ok (.iconst 0, 1) := by decide +kernel
theorem dX4_find_35 : decode cX4_find 35 = .ok (.istore 6, 2) := by decide +kernel
theorem dX4_find_37 : decode cX4_find 37 = .ok (.iload 6, 2) := by decide +kernel
theorem dX4_find_39 : decode cX4_find 39 = .ok (.iconst 4, 1) := by decide +kernel
theorem dX4_find_40 : decode cX4_find 40 = .ok (.if_icmp .ge 64, 3) := by decide +kernel
theorem dX4_find_43 : decode cX4_find 43 = .ok (.aload_n 0, 1) := by decide +kernel
theorem dX4_find_44 : decode cX4_find 44 = .ok (.aload_n 1, 1) := by decide +kernel
theorem dX4_find_45 : decode cX4_find 45 = .ok (.iload 6, 2) := by decide +kernel
theorem dX4_find_47 : decode cX4_find 47 = .ok (.aaload, 1) := by decide +kernel
theorem dX4_find_48 : decode cX4_find 48 = .ok (.iload 5, 2) := by decide +kernel
theorem dX4_find_50 : decode cX4_find 50 = .ok (.invokevirtual 64, 3) := by decide +kernel
theorem dX4_find_53 : decode cX4_find 53 = .ok (.iconst 0, 1) := by decide +kernel
theorem dX4_find_54 : decode cX4_find 54 = .ok (.istore 7, 2) := by decide +kernel
theorem dX4_find_56 : decode cX4_find 56 = .ok (.iload 7, 2) := by decide +kernel
theorem dX4_find_58 : decode cX4_find 58 = .ok (.aload_n 0, 1) := by decide +kernel
theorem dX4_find_59 : decode cX4_find 59 = .ok (.getfield 60, 3) := by decide +kernel
theorem dX4_find_62 : decode cX4_find 62 = .ok (.if_icmp .ge 30, 3) := by decide +kernel
theorem dX4_find_65 : decode cX4_find 65 = .ok (.aload_n 0, 1) := by decide +kernel
theorem dX4_find_66 : decode cX4_find 66 = .ok (.iload 7, 2) := by decide +kernel
theorem dX4_find_68 : decode cX4_find 68 = .ok (.aload_n 2, 1) := by decide +kernel
theorem dX4_find_69 : decode cX4_find 69 = .ok (.aload_n 0, 1) := by decide +kernel
theorem dX4_find_70 : decode cX4_find 70 = .ok (.getfield 21, 3) := by decide +kernel
theorem dX4_find_73 : decode cX4_find 73 = .ok (.iload 7, 2) := by decide +kernel
theorem dX4_find_75 : decode cX4_find 75 = .ok (.iaload, 1) := by decide +kernel
theorem dX4_find_76 : decode cX4_find 76 = .ok (.aaload, 1) := by decide +kernel
theorem dX4_find_77 : decode cX4_find 77 = .ok (.aload_n 1, 1) := by decide +kernel
theorem dX4_find_78 : decode cX4_find 78 = .ok (.iload 6, 2) := by decide +kernel
theorem dX4_find_80 : decode cX4_find 80 = .ok (.aaload, 1) := by decide +kernel
theorem dX4_find_81 : decode cX4_find 81 = .ok (.aload 4, 2) := by decide +kernel
theorem dX4_find_83 : decode cX4_find 83 = .ok (.invokevirtual 68, 3) := by decide +kernel
theorem dX4_find_86 : decode cX4_find 86 = .ok (.iinc 7 1, 3) := by decide +kernel
theorem dX4_find_89 : decode cX4_find 89 = .ok (.goto (-33), 3) := by decide +kernel
theorem dX4_find_92 : decode cX4_find 92 = .ok (.aload_n 0, 1) := by decide +kernel
theorem dX4_find_93 : decode cX4_find 93 = .ok (.iload 6, 2) := by decide +kernel
theorem dX4_find_95 : decode cX4_find 95 = .ok (.invokevirtual 72, 3) := by decide +kernel
theorem dX4_find_98 : decode cX4_find 98 = .ok (.iinc 6 1, 3) := by decide +kernel
theorem dX4_find_101 : decode cX4_find 101 = .ok (.goto (-64), 3) := by decide +kernel
theorem dX4_find_104 : decode cX4_find 104 = .ok (.aload_n 0, 1) := by decide +kernel
theorem dX4_find_105 : decode cX4_find 105 = .ok (.aload_n 1, 1) := by decide +kernel
theorem dX4_find_106 : decode cX4_find 106 = .ok (.aload_n 2, 1) := by decide +kernel
theorem dX4_find_107 : decode cX4_find 107 = .ok (.aload 4, 2) := by decide +kernel
theorem dX4_find_109 : decode cX4_find 109 = .ok (.iload 5, 2) := by decide +kernel
theorem dX4_find_111 : decode cX4_find 111 = .ok (.invokevirtual 76, 3) := by decide +kernel
theorem dX4_find_114 : decode cX4_find 114 = .ok (.return_, 1) := by decide +kernel
theorem dX4_lineUp_0 : decode cX4_lineUp 0 = .ok (.aload_n 0, 1) := by decide +kernel
theorem dX4_lineUp_1 : decode cX4_lineUp 1 = .ok (.iconst 0, 1) := by decide +kernel
theorem dX4_lineUp_2 : decode cX4_lineUp 2 = .ok (.putfield 60, 3) := by decide +kernel
theorem dX4_lineUp_5 : decode cX4_lineUp 5 = .ok (.iconst 0, 1) := by decide +kernel
theorem dX4_lineUp_6 : decode cX4_lineUp 6 = .ok (.istore_n 3, 1) := by decide +kernel
theorem dX4_lineUp_7 : decode cX4_lineUp 7 = .ok (.iload_n 3, 1) := by decide +kernel
theorem dX4_lineUp_8 : decode cX4_lineUp 8 = .ok (.iload_n 2, 1) := by decide +kernel
theorem dX4_lineUp_9 : decode cX4_lineUp 9 = .ok (.if_icmp .ge 92, 3) := by decide +kernel
theorem dX4_lineUp_12 : decode cX4_lineUp 12 = .ok (.aload_n 1, 1) := by decide +kernel
theorem dX4_lineUp_13 : decode cX4_lineUp 13 = .ok (.iload_n 3, 1) := by decide +kernel
theorem dX4_lineUp_14 : decode cX4_lineUp 14 = .ok (.aaload, 1) := by decide +kernel
theorem dX4_lineUp_15 : decode cX4_lineUp 15 = .ok (.getfield 80, 3) := by decide +kernel
theorem dX4_lineUp_18 : decode cX4_lineUp 18 = .ok (.ifCond .ne 77, 3) := by decide +kernel
theorem dX4_lineUp_21 : decode cX4_lineUp 21 = .ok (.aload_n 0, 1) := by decide +kernel
theorem dX4_lineUp_22 : decode cX4_lineUp 22 = .ok (.getfield 60, 3) := by decide +kernel
theorem dX4_lineUp_25 : decode cX4_lineUp 25 = .ok (.istore 4, 2) := by decide +kernel
theorem dX4_lineUp_27 : decode cX4_lineUp 27 = .ok (.iload 4, 2) := by decide +kernel
theorem dX4_lineUp_29 : decode cX4_lineUp 29 = .ok (.ifCond .le 48, 3) := by decide +kernel
theorem dX4_lineUp_32 : decode cX4_lineUp 32 = .ok (.aload_n 1, 1) := by decide +kernel
theorem dX4_lineUp_33 : decode cX4_lineUp 33 = .ok (.aload_n 0, 1) := by decide +kernel
theorem dX4_lineUp_34 : decode cX4_lineUp 34 = .ok (.getfield 21, 3) := by decide +kernel
theorem dX4_lineUp_37 : decode cX4_lineUp 37 = .ok (.iload 4, 2) := by decide +kernel
theorem dX4_lineUp_39 : decode cX4_lineUp 39 = .ok (.iconst 1, 1) := by decide +kernel
theorem dX4_lineUp_40 : decode cX4_lineUp 40 = .ok (.isub, 1) := by decide +kernel
theorem dX4_lineUp_41 : decode cX4_lineUp 41 = .ok (.iaload, 1) := by decide +kernel
theorem dX4_lineUp_42 : decode cX4_lineUp 42 = .ok (.aaload, 1) := by decide +kernel
theorem dX4_lineUp_43 : decode cX4_lineUp 43 = .ok (.getfield 85, 3) := by decide +kernel
theorem dX4_lineUp_46 : decode cX4_lineUp 46 = .ok (.aload_n 1, 1) := by decide +kernel
theorem dX4_lineUp_47 : decode cX4_lineUp 47 = .ok (.iload_n 3, 1) := by decide +kernel
theorem dX4_lineUp_48 : decode cX4_lineUp 48 = .ok (.aaload, 1) := by decide +kernel
theorem dX4_lineUp_49 : decode cX4_lineUp 49 = .ok (.getfield 85, 3) := by decide +kernel
theorem dX4_lineUp_52 : decode cX4_lineUp 52 = .ok (.if_icmp .le 25, 3) := by decide +kernel
theorem dX4_lineUp_55 : decode cX4_lineUp 55 = .ok (.aload_n 0, 1) := by decide +kernel
theorem dX4_lineUp_56 : decode cX4_lineUp 56 = .ok (.getfield 21, 3) := by decide +kernel
theorem dX4_lineUp_59 : decode cX4_lineUp 59 = .ok (.iload 4, 2) := by decide +kernel
theorem dX4_lineUp_61 : decode cX4_lineUp 61 = .ok (.aload_n 0, 1) := by decide +kernel
theorem dX4_lineUp_62 : decode cX4_lineUp 62 = .ok (.getfield 21, 3) := by decide +kernel
theorem dX4_lineUp_65 : decode cX4_lineUp 65 = .ok (.iload 4, 2) := by decide +kernel
theorem dX4_lineUp_67 : decode cX4_lineUp 67 = .ok (.iconst 1, 1) := by decide +kernel
theorem dX4_lineUp_68 : decode cX4_lineUp 68 = .ok (.isub, 1) := by decide +kernel
theorem dX4_lineUp_69 : decode cX4_lineUp 69 = .ok (.iaload, 1) := by decide +kernel
theorem dX4_lineUp_70 : decode cX4_lineUp 70 = .ok (.iastore, 1) := by decide +kernel
theorem dX4_lineUp_71 : decode cX4_lineUp 71 = .ok (.iinc 4 (-1), 3) := by decide +kernel
theorem dX4_lineUp_74 : decode cX4_lineUp 74 = .ok (.goto (-47), 3) := by decide +kernel
theorem dX4_lineUp_77 : decode cX4_lineUp 77 = .ok (.aload_n 0, 1) := by decide +kernel
theorem dX4_lineUp_78 : decode cX4_lineUp 78 = .ok (.getfield 21, 3) := by decide +kernel
theorem dX4_lineUp_81 : decode cX4_lineUp 81 = .ok (.iload 4, 2) := by decide +kernel
theorem dX4_lineUp_83 : decode cX4_lineUp 83 = .ok (.iload_n 3, 1) := by decide +kernel
theorem dX4_lineUp_84 : decode cX4_lineUp 84 = .ok (.iastore, 1) := by decide +kernel
theorem dX4_lineUp_85 : decode cX4_lineUp 85 = .ok (.aload_n 0, 1) := by decide +kernel
theorem dX4_lineUp_86 : decode cX4_lineUp 86 = .ok (.dup, 1) := by decide +kernel
theorem dX4_lineUp_87 : decode cX4_lineUp 87 = .ok (.getfield 60, 3) := by decide +kernel
theorem dX4_lineUp_90 : decode cX4_lineUp 90 = .ok (.iconst 1, 1) := by decide +kernel
theorem dX4_lineUp_91 : decode cX4_lineUp 91 = .ok (.iadd, 1) := by decide +kernel
theorem dX4_lineUp_92 : decode cX4_lineUp 92 = .ok (.putfield 60, 3) := by decide +kernel
theorem dX4_lineUp_95 : decode cX4_lineUp 95 = .ok (.iinc 3 1, 3) := by decide +kernel
theorem dX4_lineUp_98 : decode cX4_lineUp 98 = .ok (.goto (-91), 3) := by decide +kernel
theorem dX4_lineUp_101 : decode cX4_lineUp 101 = .ok (.return_, 1) := by decide +kernel
theorem dX4_startAt_0 : decode cX4_startAt 0 = .ok (.aload_n 0, 1) := by decide +kernel
theorem dX4_startAt_1 : decode cX4_startAt 1 = .ok (.getfield 31, 3) := by decide +kernel
theorem dX4_startAt_4 : decode cX4_startAt 4 = .ok (.iconst 0, 1) := by decide +kernel
theorem dX4_startAt_5 : decode cX4_startAt 5 = .ok (.iconst 1, 1) := by decide +kernel
theorem dX4_startAt_6 : decode cX4_startAt 6 = .ok (.bastore, 1) := by decide +kernel
theorem dX4_startAt_7 : decode cX4_startAt 7 = .ok (.aload_n 0, 1) := by decide +kernel
theorem dX4_startAt_8 : decode cX4_startAt 8 = .ok (.getfield 35, 3) := by decide +kernel
theorem dX4_startAt_11 : decode cX4_startAt 11 = .ok (.iconst 0, 1) := by decide +kernel
theorem dX4_startAt_12 : decode cX4_startAt 12 = .ok (.iload_n 2, 1) := by decide +kernel
theorem dX4_startAt_13 : decode cX4_startAt 13 = .ok (.iastore, 1) := by decide +kernel
theorem dX4_startAt_14 : decode cX4_startAt 14 = .ok (.aload_n 0, 1) := by decide +kernel
theorem dX4_startAt_15 : decode cX4_startAt 15 = .ok (.getfield 38, 3) := by decide +kernel
theorem dX4_startAt_18 : decode cX4_startAt 18 = .ok (.iconst 0, 1) := by decide +kernel
theorem dX4_startAt_19 : decode cX4_startAt 19 = .ok (.aload_n 1, 1) := by decide +kernel
theorem dX4_startAt_20 : decode cX4_startAt 20 = .ok (.getfield 88, 3) := by decide +kernel
theorem dX4_startAt_23 : decode cX4_startAt 23 = .ok (.iload_n 2, 1) := by decide +kernel
theorem dX4_startAt_24 : decode cX4_startAt 24 = .ok (.iaload, 1) := by decide +kernel
theorem dX4_startAt_25 : decode cX4_startAt 25 = .ok (.iastore, 1) := by decide +kernel
theorem dX4_startAt_26 : decode cX4_startAt 26 = .ok (.aload_n 0, 1) := by decide +kernel
theorem dX4_startAt_27 : decode cX4_startAt 27 = .ok (.getfield 41, 3) := by decide +kernel
theorem dX4_startAt_30 : decode cX4_startAt 30 = .ok (.iconst 0, 1) := by decide +kernel
theorem dX4_startAt_31 : decode cX4_startAt 31 = .ok (.iconst 0, 1) := by decide +kernel
theorem dX4_startAt_32 : decode cX4_startAt 32 = .ok (.iastore, 1) := by decide +kernel
theorem dX4_startAt_33 : decode cX4_startAt 33 = .ok (.aload_n 0, 1) := by decide +kernel
theorem dX4_startAt_34 : decode cX4_startAt 34 = .ok (.getfield 44, 3) := by decide +kernel
theorem dX4_startAt_37 : decode cX4_startAt 37 = .ok (.iconst 0, 1) := by decide +kernel
theorem dX4_startAt_38 : decode cX4_startAt 38 = .ok (.lconst 0, 1) := by decide +kernel
theorem dX4_startAt_39 : decode cX4_startAt 39 = .ok (.lastore, 1) := by decide +kernel
theorem dX4_startAt_40 : decode cX4_startAt 40 = .ok (.return_, 1) := by decide +kernel
theorem dX4_addToSets_0 : decode cX4_addToSets 0 = .ok (.iconst 1, 1) := by decide +kernel
theorem dX4_addToSets_1 : decode cX4_addToSets 1 = .ok (.iload_n 1, 1) := by decide +kernel
theorem dX4_addToSets_2 : decode cX4_addToSets 2 = .ok (.ishl, 1) := by decide +kernel
theorem dX4_addToSets_3 : decode cX4_addToSets 3 = .ok (.istore 5, 2) := by decide +kernel
theorem dX4_addToSets_5 : decode cX4_addToSets 5 = .ok (.aload_n 2, 1) := by decide +kernel
theorem dX4_addToSets_6 : decode cX4_addToSets 6 = .ok (.aload_n 3, 1) := by decide +kernel
theorem dX4_addToSets_7 : decode cX4_addToSets 7 = .ok (.getfield 93, 3) := by decide +kernel
theorem dX4_addToSets_10 : decode cX4_addToSets 10 = .ok (.invokestatic 96, 3) := by decide +kernel
theorem dX4_addToSets_13 : decode cX4_addToSets 13 = .ok (.lstore 6, 2) := by decide +kernel
theorem dX4_addToSets_15 : decode cX4_addToSets 15 = .ok (.iconst 0, 1) := by decide +kernel
theorem dX4_addToSets_16 : decode cX4_addToSets 16 = .ok (.istore 8, 2) := by decide +kernel
theorem dX4_addToSets_18 : decode cX4_addToSets 18 = .ok (.iload 8, 2) := by decide +kernel
theorem dX4_addToSets_20 : decode cX4_addToSets 20 = .ok (.iload 5, 2) := by decide +kernel
theorem dX4_addToSets_22 : decode cX4_addToSets 22 = .ok (.if_icmp .ge 158, 3) := by decide +kernel
theorem dX4_addToSets_25 : decode cX4_addToSets 25 = .ok (.iload 8, 2) := by decide +kernel
theorem dX4_addToSets_27 : decode cX4_addToSets 27 = .ok (.iload 5, 2) := by decide +kernel
theorem dX4_addToSets_29 : decode cX4_addToSets 29 = .ok (.ior, 1) := by decide +kernel
theorem dX4_addToSets_30 : decode cX4_addToSets 30 = .ok (.istore 9, 2) := by decide +kernel
theorem dX4_addToSets_32 : decode cX4_addToSets 32 = .ok (.aload_n 0, 1) := by decide +kernel
theorem dX4_addToSets_33 : decode cX4_addToSets 33 = .ok (.getfield 27, 3) := by decide +kernel
theorem dX4_addToSets_36 : decode cX4_addToSets 36 = .ok (.aload_n 0, 1) := by decide +kernel
theorem dX4_addToSets_37 : decode cX4_addToSets 37 = .ok (.getfield 35, 3) := by decide +kernel
theorem dX4_addToSets_40 : decode cX4_addToSets 40 = .ok (.iload 8, 2) := by decide +kernel
theorem dX4_addToSets_42 : decode cX4_addToSets 42 = .ok (.iaload, 1) := by decide +kernel
theorem dX4_addToSets_43 : decode cX4_addToSets 43 = .ok (.putfield 100, 3) := by decide +kernel
theorem dX4_addToSets_46 : decode cX4_addToSets 46 = .ok (.aload_n 0, 1) := by decide +kernel
theorem dX4_addToSets_47 : decode cX4_addToSets 47 = .ok (.getfield 27, 3) := by decide +kernel
theorem dX4_addToSets_50 : decode cX4_addToSets 50 = .ok (.aload_n 0, 1) := by decide +kernel
theorem dX4_addToSets_51 : decode cX4_addToSets 51 = .ok (.getfield 38, 3) := by decide +kernel
theorem dX4_addToSets_54 : decode cX4_addToSets 54 = .ok (.iload 8, 2) := by decide +kernel
theorem dX4_addToSets_56 : decode cX4_addToSets 56 = .ok (.iaload, 1) := by decide +kernel
theorem dX4_addToSets_57 : decode cX4_addToSets 57 = .ok (.putfield 103, 3) := by decide +kernel
theorem dX4_addToSets_60 : decode cX4_addToSets 60 = .ok (.aload_n 0, 1) := by decide +kernel
theorem dX4_addToSets_61 : decode cX4_addToSets 61 = .ok (.getfield 41, 3) := by decide +kernel
theorem dX4_addToSets_64 : decode cX4_addToSets 64 = .ok (.iload 9, 2) := by decide +kernel
theorem dX4_addToSets_66 : decode cX4_addToSets 66 = .ok (.aload_n 0, 1) := by decide +kernel
theorem dX4_addToSets_67 : decode cX4_addToSets 67 = .ok (.getfield 41, 3) := by decide +kernel
theorem dX4_addToSets_70 : decode cX4_addToSets 70 = .ok (.iload 8, 2) := by decide +kernel
theorem dX4_addToSets_72 : decode cX4_addToSets 72 = .ok (.iaload, 1) := by decide +kernel
theorem dX4_addToSets_73 : decode cX4_addToSets 73 = .ok (.aload_n 2, 1) := by decide +kernel
theorem dX4_addToSets_74 : decode cX4_addToSets 74 = .ok (.getfield 106, 3) := by decide +kernel
theorem dX4_addToSets_77 : decode cX4_addToSets 77 = .ok (.iadd, 1) := by decide +kernel
theorem dX4_addToSets_78 : decode cX4_addToSets 78 = .ok (.iastore, 1) := by decide +kernel
theorem dX4_addToSets_79 : decode cX4_addToSets 79 = .ok (.aload_n 0, 1) := by decide +kernel
theorem dX4_addToSets_80 : decode cX4_addToSets 80 = .ok (.getfield 31, 3) := by decide +kernel
theorem dX4_addToSets_83 : decode cX4_addToSets 83 = .ok (.iload 9, 2) := by decide +kernel
theorem dX4_addToSets_85 : decode cX4_addToSets 85 = .ok (.aload_n 0, 1) := by decide +kernel
theorem dX4_addToSets_86 : decode cX4_addToSets 86 = .ok (.getfield 31, 3) := by decide +kernel
theorem dX4_addToSets_89 : decode cX4_addToSets 89 = .ok (.iload 8, 2) := by decide +kernel
theorem dX4_addToSets_91 : decode cX4_addToSets 91 = .ok (.baload, 1) := by decide +kernel
theorem dX4_addToSets_92 : decode cX4_addToSets 92 = .ok (.ifCond .eq 35, 3) := by decide +kernel
theorem dX4_addToSets_95 : decode cX4_addToSets 95 = .ok (.aload_n 0, 1) := by decide +kernel
theorem dX4_addToSets_96 : decode cX4_addToSets 96 = .ok (.getfield 41, 3) := by decide +kernel
theorem dX4_addToSets_99 : decode cX4_addToSets 99 = .ok (.iload 9, 2) := by decide +kernel
theorem dX4_addToSets_101 : decode cX4_addToSets 101 = .ok (.iaload, 1) := by decide +kernel
theorem dX4_addToSets_102 : decode cX4_addToSets 102 = .ok (.aload_n 3, 1) := by decide +kernel
theorem dX4_addToSets_103 : decode cX4_addToSets 103 = .ok (.getfield 108, 3) := by decide +kernel
theorem dX4_addToSets_106 : decode cX4_addToSets 106 = .ok (.if_icmp .gt 21, 3) := by decide +kernel
theorem dX4_addToSets_109 : decode cX4_addToSets 109 = .ok (.aload_n 0, 1) := by decide +kernel
theorem dX4_addToSets_110 : decode cX4_addToSets 110 = .ok (.getfield 27, 3) := by decide +kernel
theorem dX4_addToSets_113 : decode cX4_addToSets 113 = .ok (.aload_n 2, 1) := by decide +kernel
theorem dX4_addToSets_114 : decode cX4_addToSets 114 = .ok (.aload_n 3, 1) := by decide +kernel
theorem dX4_addToSets_115 : decode cX4_addToSets 115 = .ok (.aload 4, 2) := by decide +kernel
theorem dX4_addToSets_117 : decode cX4_addToSets 117 = .ok (.invokevirtual 109, 3) := by decide +kernel
theorem dX4_addToSets_120 : decode cX4_addToSets 120 = .ok (.ifCond .eq 7, 3) := by decide +kernel
theorem dX4_addToSets_123 : decode cX4_addToSets 123 = .ok (.iconst 1, 1) := by decide +kernel
theorem dX4_addToSets_124 : decode cX4_addToSets 124 = .ok (.goto 4, 3) := by decide +kernel
theorem dX4_addToSets_127 : decode cX4_addToSets 127 = .ok (.iconst 0, 1) := by decide +kernel
theorem dX4_addToSets_128 : decode cX4_addToSets 128 = .ok (.bastore, 1) := by decide +kernel
theorem dX4_addToSets_129 : decode cX4_addToSets 129 = .ok (.aload_n 0, 1) := by decide +kernel
theorem dX4_addToSets_130 : decode cX4_addToSets 130 = .ok (.getfield 35, 3) := by decide +kernel
theorem dX4_addToSets_133 : decode cX4_addToSets 133 = .ok (.iload 9, 2) := by decide +kernel
theorem dX4_addToSets_135 : decode cX4_addToSets 135 = .ok (.aload_n 0, 1) := by decide +kernel
theorem dX4_addToSets_136 : decode cX4_addToSets 136 = .ok (.getfield 27, 3) := by decide +kernel
theorem dX4_addToSets_139 : decode cX4_addToSets 139 = .ok (.getfield 100, 3) := by decide +kernel
theorem dX4_addToSets_142 : decode cX4_addToSets 142 = .ok (.iastore, 1) := by decide +kernel
theorem dX4_addToSets_143 : decode cX4_addToSets 143 = .ok (.aload_n 0, 1) := by decide +kernel
theorem dX4_addToSets_144 : decode cX4_addToSets 144 = .ok (.getfield 38, 3) := by decide +kernel
theorem dX4_addToSets_147 : decode cX4_addToSets 147 = .ok (.iload 9, 2) := by decide +kernel
theorem dX4_addToSets_149 : decode cX4_addToSets 149 = .ok (.aload_n 0, 1) := by decide +kernel
theorem dX4_addToSets_150 : decode cX4_addToSets 150 = .ok (.getfield 27, 3) := by decide +kernel
theorem dX4_addToSets_153 : decode cX4_addToSets 153 = .ok (.getfield 103, 3) := by decide +kernel
theorem dX4_addToSets_156 : decode cX4_addToSets 156 = .ok (.iastore, 1) := by decide +kernel
theorem dX4_addToSets_157 : decode cX4_addToSets 157 = .ok (.aload_n 0, 1) := by decide +kernel
theorem dX4_addToSets_158 : decode cX4_addToSets 158 = .ok (.getfield 44, 3) := by decide +kernel
theorem dX4_addToSets_161 : decode cX4_addToSets 161 = .ok (.iload 9, 2) := by decide +kernel
theorem dX4_addToSets_163 : decode cX4_addToSets 163 = .ok (.aload_n 0, 1) := by decide +kernel
theorem dX4_addToSets_164 : decode cX4_addToSets 164 = .ok (.getfield 44, 3) := by decide +kernel
theorem dX4_addToSets_167 : decode cX4_addToSets 167 = .ok (.iload 8, 2) := by decide +kernel
theorem dX4_addToSets_169 : decode cX4_addToSets 169 = .ok (.laload, 1) := by decide +kernel
theorem dX4_addToSets_170 : decode cX4_addToSets 170 = .ok (.lload 6, 2) := by decide +kernel
theorem dX4_addToSets_172 : decode cX4_addToSets 172 = .ok (.ladd, 1) := by decide +kernel
theorem dX4_addToSets_173 : decode cX4_addToSets 173 = .ok (.lastore, 1) := by decide +kernel
theorem dX4_addToSets_174 : decode cX4_addToSets 174 = .ok (.iinc 8 1, 3) := by decide +kernel
theorem dX4_addToSets_177 : decode cX4_addToSets 177 = .ok (.goto (-159), 3) := by decide +kernel
theorem dX4_addToSets_180 : decode cX4_addToSets 180 = .ok (.return_, 1) := by decide +kernel
theorem dX4_rankOf_0 : decode cX4_rankOf 0 = .ok (.aload_n 0, 1) := by decide +kernel
theorem dX4_rankOf_1 : decode cX4_rankOf 1 = .ok (.getfield 113, 3) := by decide +kernel
theorem dX4_rankOf_4 : decode cX4_rankOf 4 = .ok (.i2l, 1) := by decide +kernel
theorem dX4_rankOf_5 : decode cX4_rankOf 5 = .ok (.ldc2_w 116, 3) := by decide +kernel
theorem dX4_rankOf_8 : decode cX4_rankOf 8 = .ok (.lmul, 1) := by decide +kernel
theorem dX4_rankOf_9 : decode cX4_rankOf 9 = .ok (.aload_n 0, 1) := by decide +kernel
theorem dX4_rankOf_10 : decode cX4_rankOf 10 = .ok (.iload_n 1, 1) := by decide +kernel
theorem dX4_rankOf_11 : decode cX4_rankOf 11 = .ok (.invokevirtual 118, 3) := by decide +kernel
theorem dX4_rankOf_14 : decode cX4_rankOf 14 = .ok (.i2l, 1) := by decide +kernel
theorem dX4_rankOf_15 : decode cX4_rankOf 15 = .ok (.ldc2_w 122, 3) := by decide +kernel
theorem dX4_rankOf_18 : decode cX4_rankOf 18 = .ok (.lmul, 1) := by decide +kernel
theorem dX4_rankOf_19 : decode cX4_rankOf 19 = .ok (.lsub, 1) := by decide +kernel
theorem dX4_rankOf_20 : decode cX4_rankOf 20 = .ok (.iconst 4, 1) := by decide +kernel
theorem dX4_rankOf_21 : decode cX4_rankOf 21 = .ok (.iload_n 1, 1) := by decide +kernel
theorem dX4_rankOf_22 : decode cX4_rankOf 22 = .ok (.isub, 1) := by decide +kernel
theorem dX4_rankOf_23 : decode cX4_rankOf 23 = .ok (.getstatic 124, 3) := by decide +kernel
theorem dX4_rankOf_26 : decode cX4_rankOf 26 = .ok (.aload_n 0, 1) := by decide +kernel
theorem dX4_rankOf_27 : decode cX4_rankOf 27 = .ok (.getfield 127, 3) := by decide +kernel
theorem dX4_rankOf_30 : decode cX4_rankOf 30 = .ok (.iaload, 1) := by decide +kernel
theorem dX4_rankOf_31 : decode cX4_rankOf 31 = .ok (.imul, 1) := by decide +kernel
theorem dX4_rankOf_32 : decode cX4_rankOf 32 = .ok (.i2l, 1) := by decide +kernel
theorem dX4_rankOf_33 : decode cX4_rankOf 33 = .ok (.ladd, 1) := by decide +kernel
theorem dX4_rankOf_34 : decode cX4_rankOf 34 = .ok (.lreturn, 1) := by decide +kernel
theorem dX4_shareAlsoWith_0 : decode cX4_shareAlsoWith 0 = .ok (.iconst 1, 1) := by decide +kernel
theorem dX4_shareAlsoWith_1 : decode cX4_shareAlsoWith 1 = .ok (.aload_n 0, 1) := by decide +kernel
theorem dX4_shareAlsoWith_2 : decode cX4_shareAlsoWith 2 = .ok (.getfield 60, 3) := by decide +kernel
theorem dX4_shareAlsoWith_5 : decode cX4_shareAlsoWith 5 = .ok (.ishl, 1) := by decide +kernel
theorem dX4_shareAlsoWith_6 : decode cX4_shareAlsoWith 6 = .ok (.iconst 1, 1) := by decide +kernel
theorem dX4_shareAlsoWith_7 : decode cX4_shareAlsoWith 7 = .ok (.isub, 1) := by decide +kernel
theorem dX4_shareAlsoWith_8 : decode cX4_shareAlsoWith 8 = .ok (.istore_n 2, 1) := by decide +kernel
theorem dX4_shareAlsoWith_9 : decode cX4_shareAlsoWith 9 = .ok (.iload_n 2, 1) := by decide +kernel
theorem dX4_shareAlsoWith_10 : decode cX4_shareAlsoWith 10 = .ok (.ifCond .lt 114, 3) := by decide +kernel
theorem dX4_shareAlsoWith_13 : decode cX4_shareAlsoWith 13 = .ok (.aload_n 0, 1) := by decide +kernel
theorem dX4_shareAlsoWith_14 : decode cX4_shareAlsoWith 14 = .ok (.getfield 48, 3) := by decide +kernel
theorem dX4_shareAlsoWith_17 : decode cX4_shareAlsoWith 17 = .ok (.iload_n 2, 1) := by decide +kernel
theorem dX4_shareAlsoWith_18 : decode cX4_shareAlsoWith 18 = .ok (.laload, 1) := by decide +kernel
theorem dX4_shareAlsoWith_19 : decode cX4_shareAlsoWith 19 = .ok (.lstore_n 3, 1) := by decide +kernel
theorem dX4_shareAlsoWith_20 : decode cX4_shareAlsoWith 20 = .ok (.iconst 0, 1) := by decide +kernel
theorem dX4_shareAlsoWith_21 : decode cX4_shareAlsoWith 21 = .ok (.istore 5, 2) := by decide +kernel
theorem dX4_shareAlsoWith_23 : decode cX4_shareAlsoWith 23 = .ok (.iconst 1, 1) := by decide +kernel
theorem dX4_shareAlsoWith_24 : decode cX4_shareAlsoWith 24 = .ok (.istore 6, 2) := by decide +kernel
theorem dX4_shareAlsoWith_26 : decode cX4_shareAlsoWith 26 = .ok (.iload 6, 2) := by decide +kernel
theorem dX4_shareAlsoWith_28 : decode cX4_shareAlsoWith 28 = .ok (.iload_n 2, 1) := by decide +kernel
theorem dX4_shareAlsoWith_29 : decode cX4_shareAlsoWith 29 = .ok (.if_icmp .gt 72, 3) := by decide +kernel
theorem dX4_shareAlsoWith_32 : decode cX4_shareAlsoWith 32 = .ok (.iload 6, 2) := by decide +kernel
theorem dX4_shareAlsoWith_34 : decode cX4_shareAlsoWith 34 = .ok (.iload_n 2, 1) := by decide +kernel
theorem dX4_shareAlsoWith_35 : decode cX4_shareAlsoWith 35 = .ok (.iand, 1) := by decide +kernel
theorem dX4_shareAlsoWith_36 : decode cX4_shareAlsoWith 36 = .ok (.iload 6, 2) := by decide +kernel
theorem dX4_shareAlsoWith_38 : decode cX4_shareAlsoWith 38 = .ok (.if_icmp .ne 57, 3) := by decide +kernel
theorem dX4_shareAlsoWith_41 : decode cX4_shareAlsoWith 41 = .ok (.aload_n 0, 1) := by decide +kernel
theorem dX4_shareAlsoWith_42 : decode cX4_shareAlsoWith 42 = .ok (.getfield 31, 3) := by decide +kernel
theorem dX4_shareAlsoWith_45 : decode cX4_shareAlsoWith 45 = .ok (.iload 6, 2) := by decide +kernel
theorem dX4_shareAlsoWith_47 : decode cX4_shareAlsoWith 47 = .ok (.baload, 1) := by decide +kernel
theorem dX4_shareAlsoWith_48 : decode cX4_shareAlsoWith 48 = .ok (.ifCond .eq 47, 3) := by decide +kernel
theorem dX4_shareAlsoWith_51 : decode cX4_shareAlsoWith 51 = .ok (.aload_n 0, 1) := by decide +kernel
theorem dX4_shareAlsoWith_52 : decode cX4_shareAlsoWith 52 = .ok (.getfield 44, 3) := by decide +kernel
theorem dX4_shareAlsoWith_55 : decode cX4_shareAlsoWith 55 = .ok (.iload 6, 2) := by decide +kernel
theorem dX4_shareAlsoWith_57 : decode cX4_shareAlsoWith 57 = .ok (.laload, 1) := by decide +kernel
theorem dX4_shareAlsoWith_58 : decode cX4_shareAlsoWith 58 = .ok (.aload_n 0, 1) := by decide +kernel
theorem dX4_shareAlsoWith_59 : decode cX4_shareAlsoWith 59 = .ok (.getfield 48, 3) := by decide +kernel
theorem dX4_shareAlsoWith_62 : decode cX4_shareAlsoWith 62 = .ok (.iload_n 2, 1) := by decide +kernel
theorem dX4_shareAlsoWith_63 : decode cX4_shareAlsoWith 63 = .ok (.iload 6, 2) := by decide +kernel
theorem dX4_shareAlsoWith_65 : decode cX4_shareAlsoWith 65 = .ok (.ixor, 1) := by decide +kernel
theorem dX4_shareAlsoWith_66 : decode cX4_shareAlsoWith 66 = .ok (.laload, 1) := by decide +kernel
theorem dX4_shareAlsoWith_67 : decode cX4_shareAlsoWith 67 = .ok (.ladd, 1) := by decide +kernel
theorem dX4_shareAlsoWith_68 : decode cX4_shareAlsoWith 68 = .ok (.lload_n 3, 1) := by decide +kernel
theorem dX4_shareAlsoWith_69 : decode cX4_shareAlsoWith 69 = .ok (.lcmp, 1) := by decide +kernel
theorem dX4_shareAlsoWith_70 : decode cX4_shareAlsoWith 70 = .ok (.ifCond .le 25, 3) := by decide +kernel
theorem dX4_shareAlsoWith_73 : decode cX4_shareAlsoWith 73 = .ok (.aload_n 0, 1) := by decide +kernel
theorem dX4_shareAlsoWith_74 : decode cX4_shareAlsoWith 74 = .ok (.getfield 44, 3) := by decide +kernel
theorem dX4_shareAlsoWith_77 : decode cX4_shareAlsoWith 77 = .ok (.iload 6, 2) := by decide +kernel
theorem dX4_shareAlsoWith_79 : decode cX4_shareAlsoWith 79 = .ok (.laload, 1) := by decide +kernel
theorem dX4_shareAlsoWith_80 : decode cX4_shareAlsoWith 80 = .ok (.aload_n 0, 1) := by decide +kernel
theorem dX4_shareAlsoWith_81 : decode cX4_shareAlsoWith 81 = .ok (.getfield 48, 3) := by decide +kernel
theorem dX4_shareAlsoWith_84 : decode cX4_shareAlsoWith 84 = .ok (.iload_n 2, 1) := by decide +kernel
theorem dX4_shareAlsoWith_85 : decode cX4_shareAlsoWith 85 = .ok (.iload 6, 2) := by decide +kernel
theorem dX4_shareAlsoWith_87 : decode cX4_shareAlsoWith 87 = .ok (.ixor, 1) := by decide +kernel
theorem dX4_shareAlsoWith_88 : decode cX4_shareAlsoWith 88 = .ok (.laload, 1) := by decide +kernel
theorem dX4_shareAlsoWith_89 : decode cX4_shareAlsoWith 89 = .ok (.ladd, 1) := by decide +kernel
theorem dX4_shareAlsoWith_90 : decode cX4_shareAlsoWith 90 = .ok (.lstore_n 3, 1) := by decide +kernel
theorem dX4_shareAlsoWith_91 : decode cX4_shareAlsoWith 91 = .ok (.iload 6, 2) := by decide +kernel
theorem dX4_shareAlsoWith_93 : decode cX4_shareAlsoWith 93 = .ok (.istore 5, 2) := by decide +kernel
theorem dX4_shareAlsoWith_95 : decode cX4_shareAlsoWith 95 = .ok (.iinc 6 1, 3) := by decide +kernel
theorem dX4_shareAlsoWith_98 : decode cX4_shareAlsoWith 98 = .ok (.goto (-72), 3) := by decide +kernel
theorem dX4_shareAlsoWith_101 : decode cX4_shareAlsoWith 101 = .ok (.aload_n 0, 1) := by decide +kernel
theorem dX4_shareAlsoWith_102 : decode cX4_shareAlsoWith 102 = .ok (.getfield 48, 3) := by decide +kernel
theorem dX4_shareAlsoWith_105 : decode cX4_shareAlsoWith 105 = .ok (.iload_n 2, 1) := by decide +kernel
theorem dX4_shareAlsoWith_106 : decode cX4_shareAlsoWith 106 = .ok (.lload_n 3, 1) := by decide +kernel
theorem dX4_shareAlsoWith_107 : decode cX4_shareAlsoWith 107 = .ok (.lastore, 1) := by decide +kernel
theorem dX4_shareAlsoWith_108 : decode cX4_shareAlsoWith 108 = .ok (.aload_n 0, 1) := by decide +kernel
theorem dX4_shareAlsoWith_109 : decode cX4_shareAlsoWith 109 = .ok (.getfield 53, 3) := by decide +kernel
theorem dX4_shareAlsoWith_112 : decode cX4_shareAlsoWith 112 = .ok (.iload_n 1, 1) := by decide +kernel
theorem dX4_shareAlsoWith_113 : decode cX4_shareAlsoWith 113 = .ok (.aaload, 1) := by decide +kernel
theorem dX4_shareAlsoWith_114 : decode cX4_shareAlsoWith 114 = .ok (.iload_n 2, 1) := by decide +kernel
theorem dX4_shareAlsoWith_115 : decode cX4_shareAlsoWith 115 = .ok (.iload 5, 2) := by decide +kernel
theorem dX4_shareAlsoWith_117 : decode cX4_shareAlsoWith 117 = .ok (.iastore, 1) := by decide +kernel
theorem dX4_shareAlsoWith_118 : decode cX4_shareAlsoWith 118 = .ok (.iinc 2 (-1), 3) := by decide +kernel
theorem dX4_shareAlsoWith_121 : decode cX4_shareAlsoWith 121 = .ok (.goto (-112), 3) := by decide +kernel
theorem dX4_shareAlsoWith_124 : decode cX4_shareAlsoWith 124 = .ok (.return_, 1) := by decide +kernel
theorem dX4_tellWay_0 : decode cX4_tellWay 0 = .ok (.aload_n 0, 1) := by decide +kernel
theorem dX4_tellWay_1 : decode cX4_tellWay 1 = .ok (.iconst 0, 1) := by decide +kernel
theorem dX4_tellWay_2 : decode cX4_tellWay 2 = .ok (.putfield 128, 3) := by decide +kernel
theorem dX4_tellWay_5 : decode cX4_tellWay 5 = .ok (.aload_n 0, 1) := by decide +kernel
theorem dX4_tellWay_6 : decode cX4_tellWay 6 = .ok (.iconst 0, 1) := by decide +kernel
theorem dX4_tellWay_7 : decode cX4_tellWay 7 = .ok (.putfield 131, 3) := by decide +kernel
theorem dX4_tellWay_10 : decode cX4_tellWay 10 = .ok (.iconst 0, 1) := by decide +kernel
theorem dX4_tellWay_11 : decode cX4_tellWay 11 = .ok (.istore 5, 2) := by decide +kernel
theorem dX4_tellWay_13 : decode cX4_tellWay 13 = .ok (.iload 5, 2) := by decide +kernel
theorem dX4_tellWay_15 : decode cX4_tellWay 15 = .ok (.bipush 7, 2) := by decide +kernel
theorem dX4_tellWay_17 : decode cX4_tellWay 17 = .ok (.if_icmp .ge 33, 3) := by decide +kernel
theorem dX4_tellWay_20 : decode cX4_tellWay 20 = .ok (.aload_n 0, 1) := by decide +kernel
theorem dX4_tellWay_21 : decode cX4_tellWay 21 = .ok (.getfield 9, 3) := by decide +kernel
theorem dX4_tellWay_24 : decode cX4_tellWay 24 = .ok (.iload 5, 2) := by decide +kernel
theorem dX4_tellWay_26 : decode cX4_tellWay 26 = .ok (.iconst (-1), 1) := by decide +kernel
theorem dX4_tellWay_27 : decode cX4_tellWay 27 = .ok (.iastore, 1) := by decide +kernel
theorem dX4_tellWay_28 : decode cX4_tellWay 28 = .ok (.aload_n 0, 1) := by decide +kernel
theorem dX4_tellWay_29 : decode cX4_tellWay 29 = .ok (.getfield 15, 3) := by decide +kernel
theorem dX4_tellWay_32 : decode cX4_tellWay 32 = .ok (.iload 5, 2) := by decide +kernel
theorem dX4_tellWay_34 : decode cX4_tellWay 34 = .ok (.iconst (-1), 1) := by decide +kernel
theorem dX4_tellWay_35 : decode cX4_tellWay 35 = .ok (.iastore, 1) := by decide +kernel
theorem dX4_tellWay_36 : decode cX4_tellWay 36 = .ok (.aload_n 0, 1) := by decide +kernel
theorem dX4_tellWay_37 : decode cX4_tellWay 37 = .ok (.getfield 18, 3) := by decide +kernel
theorem dX4_tellWay_40 : decode cX4_tellWay 40 = .ok (.iload 5, 2) := by decide +kernel
theorem dX4_tellWay_42 : decode cX4_tellWay 42 = .ok (.iconst 0, 1) := by decide +kernel
theorem dX4_tellWay_43 : decode cX4_tellWay 43 = .ok (.iastore, 1) := by decide +kernel
theorem dX4_tellWay_44 : decode cX4_tellWay 44 = .ok (.iinc 5 1, 3) := by decide +kernel
theorem dX4_tellWay_47 : decode cX4_tellWay 47 = .ok (.goto (-34), 3) := by decide +kernel
theorem dX4_tellWay_50 : decode cX4_tellWay 50 = .ok (.iconst 1, 1) := by decide +kernel
theorem dX4_tellWay_51 : decode cX4_tellWay 51 = .ok (.aload_n 0, 1) := by decide +kernel
theorem dX4_tellWay_52 : decode cX4_tellWay 52 = .ok (.getfield 60, 3) := by decide +kernel
theorem dX4_tellWay_55 : decode cX4_tellWay 55 = .ok (.ishl, 1) := by decide +kernel
theorem dX4_tellWay_56 : decode cX4_tellWay 56 = .ok (.iconst 1, 1) := by decide +kernel
theorem dX4_tellWay_57 : decode cX4_tellWay 57 = .ok (.isub, 1) := by decide +kernel
theorem dX4_tellWay_58 : decode cX4_tellWay 58 = .ok (.istore 5, 2) := by decide +kernel
theorem dX4_tellWay_60 : decode cX4_tellWay 60 = .ok (.iconst 3, 1) := by decide +kernel
theorem dX4_tellWay_61 : decode cX4_tellWay 61 = .ok (.istore 6, 2) := by decide +kernel
theorem dX4_tellWay_63 : decode cX4_tellWay 63 = .ok (.iload 6, 2) := by decide +kernel
theorem dX4_tellWay_65 : decode cX4_tellWay 65 = .ok (.ifCond .lt 103, 3) := by decide +kernel
theorem dX4_tellWay_68 : decode cX4_tellWay 68 = .ok (.aload_n 0, 1) := by decide +kernel
theorem dX4_tellWay_69 : decode cX4_tellWay 69 = .ok (.getfield 53, 3) := by decide +kernel
theorem dX4_tellWay_72 : decode cX4_tellWay 72 = .ok (.iload 6, 2) := by decide +kernel
theorem dX4_tellWay_74 : decode cX4_tellWay 74 = .ok (.aaload, 1) := by decide +kernel
theorem dX4_tellWay_75 : decode cX4_tellWay 75 = .ok (.iload 5, 2) := by decide +kernel
theorem dX4_tellWay_77 : decode cX4_tellWay 77 = .ok (.iaload, 1) := by decide +kernel
theorem dX4_tellWay_78 : decode cX4_tellWay 78 = .ok (.istore 7, 2) := by decide +kernel
theorem dX4_tellWay_80 : decode cX4_tellWay 80 = .ok (.aload_n 0, 1) := by decide +kernel
theorem dX4_tellWay_81 : decode cX4_tellWay 81 = .ok (.getfield 27, 3) := by decide +kernel
theorem dX4_tellWay_84 : decode cX4_tellWay 84 = .ok (.iload 4, 2) := by decide +kernel
theorem dX4_tellWay_86 : decode cX4_tellWay 86 = .ok (.putfield 100, 3) := by decide +kernel
theorem dX4_tellWay_89 : decode cX4_tellWay 89 = .ok (.aload_n 0, 1) := by decide +kernel
theorem dX4_tellWay_90 : decode cX4_tellWay 90 = .ok (.getfield 27, 3) := by decide +kernel
theorem dX4_tellWay_93 : decode cX4_tellWay 93 = .ok (.aload_n 1, 1) := by decide +kernel
theorem dX4_tellWay_94 : decode cX4_tellWay 94 = .ok (.iload 6, 2) := by decide +kernel
theorem dX4_tellWay_96 : decode cX4_tellWay 96 = .ok (.aaload, 1) := by decide +kernel
theorem dX4_tellWay_97 : decode cX4_tellWay 97 = .ok (.getfield 88, 3) := by decide +kernel
theorem dX4_tellWay_100 : decode cX4_tellWay 100 = .ok (.iload 4, 2) := by decide +kernel
theorem dX4_tellWay_102 : decode cX4_tellWay 102 = .ok (.iaload, 1) := by decide +kernel
theorem dX4_tellWay_103 : decode cX4_tellWay 103 = .ok (.putfield 103, 3) := by decide +kernel
theorem dX4_tellWay_106 : decode cX4_tellWay 106 = .ok (.iconst 0, 1) := by decide +kernel
theorem dX4_tellWay_107 : decode cX4_tellWay 107 = .ok (.istore 8, 2) := by decide +kernel
theorem dX4_tellWay_109 : decode cX4_tellWay 109 = .ok (.iload 8, 2) := by decide +kernel
theorem dX4_tellWay_111 : decode cX4_tellWay 111 = .ok (.aload_n 0, 1) := by decide +kernel
theorem dX4_tellWay_112 : decode cX4_tellWay 112 = .ok (.getfield 60, 3) := by decide +kernel
theorem dX4_tellWay_115 : decode cX4_tellWay 115 = .ok (.if_icmp .ge 40, 3) := by decide +kernel
theorem dX4_tellWay_118 : decode cX4_tellWay 118 = .ok (.iload 7, 2) := by decide +kernel
theorem dX4_tellWay_120 : decode cX4_tellWay 120 = .ok (.iload 8, 2) := by decide +kernel
theorem dX4_tellWay_122 : decode cX4_tellWay 122 = .ok (.ishr, 1) := by decide +kernel
theorem dX4_tellWay_123 : decode cX4_tellWay 123 = .ok (.iconst 1, 1) := by decide +kernel
theorem dX4_tellWay_124 : decode cX4_tellWay 124 = .ok (.iand, 1) := by decide +kernel
theorem dX4_tellWay_125 : decode cX4_tellWay 125 = .ok (.iconst 1, 1) := by decide +kernel
theorem dX4_tellWay_126 : decode cX4_tellWay 126 = .ok (.if_icmp .ne 23, 3) := by decide +kernel
theorem dX4_tellWay_129 : decode cX4_tellWay 129 = .ok (.aload_n 0, 1) := by decide +kernel
theorem dX4_tellWay_130 : decode cX4_tellWay 130 = .ok (.aload_n 2, 1) := by decide +kernel
theorem dX4_tellWay_131 : decode cX4_tellWay 131 = .ok (.aload_n 0, 1) := by decide +kernel
theorem dX4_tellWay_132 : decode cX4_tellWay 132 = .ok (.getfield 21, 3) := by decide +kernel
theorem dX4_tellWay_135 : decode cX4_tellWay 135 = .ok (.iload 8, 2) := by decide +kernel
theorem dX4_tellWay_137 : decode cX4_tellWay 137 = .ok (.iaload, 1) := by decide +kernel
theorem dX4_tellWay_138 : decode cX4_tellWay 138 = .ok (.aaload, 1) := by decide +kernel
theorem dX4_tellWay_139 : decode cX4_tellWay 139 = .ok (.aload_n 1, 1) := by decide +kernel
theorem dX4_tellWay_140 : decode cX4_tellWay 140 = .ok (.iload 6, 2) := by decide +kernel
theorem dX4_tellWay_142 : decode cX4_tellWay 142 = .ok (.aaload, 1) := by decide +kernel
theorem dX4_tellWay_143 : decode cX4_tellWay 143 = .ok (.aload_n 3, 1) := by decide +kernel
theorem dX4_tellWay_144 : decode cX4_tellWay 144 = .ok (.iload 4, 2) := by decide +kernel
theorem dX4_tellWay_146 : decode cX4_tellWay 146 = .ok (.invokevirtual 133, 3) := by decide +kernel
theorem dX4_tellWay_149 : decode cX4_tellWay 149 = .ok (.iinc 8 1, 3) := by decide +kernel
theorem dX4_tellWay_152 : decode cX4_tellWay 152 = .ok (.goto (-43), 3) := by decide +kernel
theorem dX4_tellWay_155 : decode cX4_tellWay 155 = .ok (.iload 5, 2) := by decide +kernel
theorem dX4_tellWay_157 : decode cX4_tellWay 157 = .ok (.iload 7, 2) := by decide +kernel
theorem dX4_tellWay_159 : decode cX4_tellWay 159 = .ok (.ixor, 1) := by decide +kernel
theorem dX4_tellWay_160 : decode cX4_tellWay 160 = .ok (.istore 5, 2) := by decide +kernel
theorem dX4_tellWay_162 : decode cX4_tellWay 162 = .ok (.iinc 6 (-1), 3) := by decide +kernel
theorem dX4_tellWay_165 : decode cX4_tellWay 165 = .ok (.goto (-102), 3) := by decide +kernel
theorem dX4_tellWay_168 : decode cX4_tellWay 168 = .ok (.return_, 1) := by decide +kernel
theorem dX4_tellOrder_0 : decode cX4_tellOrder 0 = .ok (.aload_n 1, 1) := by decide +kernel
theorem dX4_tellOrder_1 : decode cX4_tellOrder 1 = .ok (.aload_n 2, 1) := by decide +kernel
theorem dX4_tellOrder_2 : decode cX4_tellOrder 2 = .ok (.getfield 93, 3) := by decide +kernel
theorem dX4_tellOrder_5 : decode cX4_tellOrder 5 = .ok (.invokevirtual 118, 3) := by decide +kernel
theorem dX4_tellOrder_8 : decode cX4_tellOrder 8 = .ok (.istore 5, 2) := by decide +kernel
theorem dX4_tellOrder_10 : decode cX4_tellOrder 10 = .ok (.aload_n 0, 1) := by decide +kernel
theorem dX4_tellOrder_11 : decode cX4_tellOrder 11 = .ok (.getfield 27, 3) := by decide +kernel
theorem dX4_tellOrder_14 : decode cX4_tellOrder 14 = .ok (.getfield 100, 3) := by decide +kernel
theorem dX4_tellOrder_17 : decode cX4_tellOrder 17 = .ok (.iload 4, 2) := by decide +kernel
theorem dX4_tellOrder_19 : decode cX4_tellOrder 19 = .ok (.if_icmp .ne 13, 3) := by decide +kernel
theorem dX4_tellOrder_22 : decode cX4_tellOrder 22 = .ok (.aload_n 0, 1) := by decide +kernel
theorem dX4_tellOrder_23 : decode cX4_tellOrder 23 = .ok (.getfield 27, 3) := by decide +kernel
theorem dX4_tellOrder_26 : decode cX4_tellOrder 26 = .ok (.getfield 103, 3) := by decide +kernel
theorem dX4_tellOrder_29 : decode cX4_tellOrder 29 = .ok (.goto 4, 3) := by decide +kernel
theorem dX4_tellOrder_32 : decode cX4_tellOrder 32 = .ok (.iconst 0, 1) := by decide +kernel
theorem dX4_tellOrder_33 : decode cX4_tellOrder 33 = .ok (.istore 6, 2) := by decide +kernel
theorem dX4_tellOrder_35 : decode cX4_tellOrder 35 = .ok (.aload_n 0, 1) := by decide +kernel
theorem dX4_tellOrder_36 : decode cX4_tellOrder 36 = .ok (.getfield 27, 3) := by decide +kernel
theorem dX4_tellOrder_39 : decode cX4_tellOrder 39 = .ok (.aload_n 1, 1) := by decide +kernel
theorem dX4_tellOrder_40 : decode cX4_tellOrder 40 = .ok (.aload_n 2, 1) := by decide +kernel
theorem dX4_tellOrder_41 : decode cX4_tellOrder 41 = .ok (.aload_n 3, 1) := by decide +kernel
theorem dX4_tellOrder_42 : decode cX4_tellOrder 42 = .ok (.invokevirtual 109, 3) := by decide +kernel
theorem dX4_tellOrder_45 : decode cX4_tellOrder 45 = .ok (.ifCond .eq 72, 3) := by decide +kernel
theorem dX4_tellOrder_48 : decode cX4_tellOrder 48 = .ok (.aload_n 0, 1) := by decide +kernel
theorem dX4_tellOrder_49 : decode cX4_tellOrder 49 = .ok (.dup, 1) := by decide +kernel
theorem dX4_tellOrder_50 : decode cX4_tellOrder 50 = .ok (.getfield 128, 3) := by decide +kernel
theorem dX4_tellOrder_53 : decode cX4_tellOrder 53 = .ok (.aload_n 1, 1) := by decide +kernel
theorem dX4_tellOrder_54 : decode cX4_tellOrder 54 = .ok (.getfield 113, 3) := by decide +kernel
theorem dX4_tellOrder_57 : decode cX4_tellOrder 57 = .ok (.iadd, 1) := by decide +kernel
theorem dX4_tellOrder_58 : decode cX4_tellOrder 58 = .ok (.putfield 128, 3) := by decide +kernel
theorem dX4_tellOrder_61 : decode cX4_tellOrder 61 = .ok (.aload_n 0, 1) := by decide +kernel
theorem dX4_tellOrder_62 : decode cX4_tellOrder 62 = .ok (.dup, 1) := by decide +kernel
theorem dX4_tellOrder_63 : decode cX4_tellOrder 63 = .ok (.getfield 131, 3) := by decide +kernel
theorem dX4_tellOrder_66 : decode cX4_tellOrder 66 = .ok (.iload 5, 2) := by decide +kernel
theorem dX4_tellOrder_68 : decode cX4_tellOrder 68 = .ok (.iadd, 1) := by decide +kernel
theorem dX4_tellOrder_69 : decode cX4_tellOrder 69 = .ok (.putfield 131, 3) := by decide +kernel
theorem dX4_tellOrder_72 : decode cX4_tellOrder 72 = .ok (.aload_n 0, 1) := by decide +kernel
theorem dX4_tellOrder_73 : decode cX4_tellOrder 73 = .ok (.getfield 9, 3) := by decide +kernel
theorem dX4_tellOrder_76 : decode cX4_tellOrder 76 = .ok (.aload_n 1, 1) := by decide +kernel
theorem dX4_tellOrder_77 : decode cX4_tellOrder 77 = .ok (.getfield 127, 3) := by decide +kernel
theorem dX4_tellOrder_80 : decode cX4_tellOrder 80 = .ok (.aload_n 2, 1) := by decide +kernel
theorem dX4_tellOrder_81 : decode cX4_tellOrder 81 = .ok (.getfield 93, 3) := by decide +kernel
theorem dX4_tellOrder_84 : decode cX4_tellOrder 84 = .ok (.iastore, 1) := by decide +kernel
theorem dX4_tellOrder_85 : decode cX4_tellOrder 85 = .ok (.aload_n 0, 1) := by decide +kernel
theorem dX4_tellOrder_86 : decode cX4_tellOrder 86 = .ok (.getfield 15, 3) := by decide +kernel
theorem dX4_tellOrder_89 : decode cX4_tellOrder 89 = .ok (.aload_n 1, 1) := by decide +kernel
theorem dX4_tellOrder_90 : decode cX4_tellOrder 90 = .ok (.getfield 127, 3) := by decide +kernel
theorem dX4_tellOrder_93 : decode cX4_tellOrder 93 = .ok (.aload_n 0, 1) := by decide +kernel
theorem dX4_tellOrder_94 : decode cX4_tellOrder 94 = .ok (.getfield 27, 3) := by decide +kernel
theorem dX4_tellOrder_97 : decode cX4_tellOrder 97 = .ok (.getfield 100, 3) := by decide +kernel
theorem dX4_tellOrder_100 : decode cX4_tellOrder 100 = .ok (.iastore, 1) := by decide +kernel
theorem dX4_tellOrder_101 : decode cX4_tellOrder 101 = .ok (.aload_n 0, 1) := by decide +kernel
theorem dX4_tellOrder_102 : decode cX4_tellOrder 102 = .ok (.getfield 18, 3) := by decide +kernel
theorem dX4_tellOrder_105 : decode cX4_tellOrder 105 = .ok (.aload_n 1, 1) := by decide +kernel
theorem dX4_tellOrder_106 : decode cX4_tellOrder 106 = .ok (.getfield 127, 3) := by decide +kernel
theorem dX4_tellOrder_109 : decode cX4_tellOrder 109 = .ok (.iload 5, 2) := by decide +kernel
theorem dX4_tellOrder_111 : decode cX4_tellOrder 111 = .ok (.iload 6, 2) := by decide +kernel
theorem dX4_tellOrder_113 : decode cX4_tellOrder 113 = .ok (.invokestatic 137, 3) := by decide +kernel
theorem dX4_tellOrder_116 : decode cX4_tellOrder 116 = .ok (.iastore, 1) := by decide +kernel
theorem dX4_tellOrder_117 : decode cX4_tellOrder 117 = .ok (.return_, 1) := by decide +kernel
theorem dX8_init_0 : decode cX8_init 0 = .ok (.aload_n 0, 1) := by decide +kernel
theorem dX8_init_1 : decode cX8_init 1 = .ok (.invokespecial 3, 3) := by decide +kernel
theorem dX8_init_4 : decode cX8_init 4 = .ok (.aload_n 0, 1) := by decide +kernel
theorem dX8_init_5 : decode cX8_init 5 = .ok (.iconst 4, 1) := by decide +kernel
theorem dX8_init_6 : decode cX8_init 6 = .ok (.anewarray 9, 3) := by decide +kernel
theorem dX8_init_9 : decode cX8_init 9 = .ok (.putfield 11, 3) := by decide +kernel
theorem dX8_init_12 : decode cX8_init 12 = .ok (.aload_n 0, 1) := by decide +kernel
theorem dX8_init_13 : decode cX8_init 13 = .ok (.bipush 6, 2) := by decide +kernel
theorem dX8_init_15 : decode cX8_init 15 = .ok (.anewarray 15, 3) := by decide +kernel
theorem dX8_init_18 : decode cX8_init 18 = .ok (.putfield 17, 3) := by decide +kernel
theorem dX8_init_21 : decode cX8_init 21 = .ok (.aload_n 0, 1) := by decide +kernel
theorem dX8_init_22 : decode cX8_init 22 = .ok (.bipush 7, 2) := by decide +kernel
theorem dX8_init_24 : decode cX8_init 24 = .ok (.anewarray 21, 3) := by decide +kernel
theorem dX8_init_27 : decode cX8_init 27 = .ok (.putfield 23, 3) := by decide +kernel
theorem dX8_init_30 : decode cX8_init 30 = .ok (.aload_n 0, 1) := by decide +kernel
theorem dX8_init_31 : decode cX8_init 31 = .ok (.new 27, 3) := by decide +kernel
theorem dX8_init_34 : decode cX8_init 34 = .ok (.dup, 1) := by decide +kernel
theorem dX8_init_35 : decode cX8_init 35 = .ok (.invokespecial 29, 3) := by decide +kernel
theorem dX8_init_38 : decode cX8_init 38 = .ok (.putfield 30, 3) := by decide +kernel
theorem dX8_init_41 : decode cX8_init 41 = .ok (.aload_n 0, 1) := by decide +kernel
theorem dX8_init_42 : decode cX8_init 42 = .ok (.new 34, 3) := by decide +kernel
theorem dX8_init_45 : decode cX8_init 45 = .ok (.dup, 1) := by decide +kernel
theorem dX8_init_46 : decode cX8_init 46 = .ok (.invokespecial 36, 3) := by decide +kernel
theorem dX8_init_49 : decode cX8_init 49 = .ok (.putfield 37, 3) := by decide +kernel
theorem dX8_init_52 : decode cX8_init 52 = .ok (.aload_n 0, 1) := by decide +kernel
theorem dX8_init_53 : decode cX8_init 53 = .ok (.new 41, 3) := by decide +kernel
theorem dX8_init_56 : decode cX8_init 56 = .ok (.dup, 1) := by decide +kernel
theorem dX8_init_57 : decode cX8_init 57 = .ok (.invokespecial 43, 3) := by decide +kernel
theorem dX8_init_60 : decode cX8_init 60 = .ok (.putfield 44, 3) := by decide +kernel
theorem dX8_init_63 : decode cX8_init 63 = .ok (.aload_n 0, 1) := by decide +kernel
theorem dX8_init_64 : decode cX8_init 64 = .ok (.new 41, 3) := by decide +kernel
theorem dX8_init_67 : decode cX8_init 67 = .ok (.dup, 1) := by decide +kernel
theorem dX8_init_68 : decode cX8_init 68 = .ok (.invokespecial 43, 3) := by decide +kernel
theorem dX8_init_71 : decode cX8_init 71 = .ok (.putfield 48, 3) := by decide +kernel
theorem dX8_init_74 : decode cX8_init 74 = .ok (.iconst 0, 1) := by decide +kernel
theorem dX8_init_75 : decode cX8_init 75 = .ok (.istore_n 1, 1) := by decide +kernel
theorem dX8_init_76 : decode cX8_init 76 = .ok (.iload_n 1, 1) := by decide +kernel
theorem dX8_init_77 : decode cX8_init 77 = .ok (.iconst 4, 1) := by decide +kernel
theorem dX8_init_78 : decode cX8_init 78 = .ok (.if_icmp .ge 23, 3) := by decide +kernel
theorem dX8_init_81 : decode cX8_init 81 = .ok (.aload_n 0, 1) := by decide +kernel
theorem dX8_init_82 : decode cX8_init 82 = .ok (.getfield 11, 3) := by decide +kernel
theorem dX8_init_85 : decode cX8_init 85 = .ok (.iload_n 1, 1) := by decide +kernel
theorem dX8_init_86 : decode cX8_init 86 = .ok (.new 9, 3) := by decide +kernel
theorem dX8_init_89 : decode cX8_init 89 = .ok (.dup, 1) := by decide +kernel
theorem dX8_init_90 : decode cX8_init 90 = .ok (.iload_n 1, 1) := by decide +kernel
theorem dX8_init_91 : decode cX8_init 91 = .ok (.invokespecial 51, 3) := by decide +kernel
theorem dX8_init_94 : decode cX8_init 94 = .ok (.aastore, 1) := by decide +kernel
theorem dX8_init_95 : decode cX8_init 95 = .ok (.iinc 1 1, 3) := by decide +kernel
theorem dX8_init_98 : decode cX8_init 98 = .ok (.goto (-22), 3) := by decide +kernel
theorem dX8_init_101 : decode cX8_init 101 = .ok (.iconst 0, 1) := by decide +kernel
theorem dX8_init_102 : decode cX8_init 102 = .ok (.istore_n 1, 1) := by decide +kernel
theorem dX8_init_103 : decode cX8_init 103 = .ok (.iload_n 1, 1) := by decide +kernel
theorem dX8_init_104 : decode cX8_init 104 = .ok (.bipush 6, 2) := by decide +kernel
theorem dX8_init_106 : decode cX8_init 106 = .ok (.if_icmp .ge 22, 3) := by decide +kernel
theorem dX8_init_109 : decode cX8_init 109 = .ok (.aload_n 0, 1) := by decide +kernel
theorem dX8_init_110 : decode cX8_init 110 = .ok (.getfield 17, 3) := by decide +kernel
theorem dX8_init_113 : decode cX8_init 113 = .ok (.iload_n 1, 1) := by decide +kernel
theorem dX8_init_114 : decode cX8_init 114 = .ok (.new 15, 3) := by decide +kernel
theorem dX8_init_117 : decode cX8_init 117 = .ok (.dup, 1) := by decide +kernel
theorem dX8_init_118 : decode cX8_init 118 = .ok (.invokespecial 54, 3) := by decide +kernel
theorem dX8_init_121 : decode cX8_init 121 = .ok (.aastore, 1) := by decide +kernel
theorem dX8_init_122 : decode cX8_init 122 = .ok (.iinc 1 1, 3) := by decide +kernel
theorem dX8_init_125 : decode cX8_init 125 = .ok (.goto (-22), 3) := by decide +kernel
theorem dX8_init_128 : decode cX8_init 128 = .ok (.iconst 0, 1) := by decide +kernel
theorem dX8_init_129 : decode cX8_init 129 = .ok (.istore_n 1, 1) := by decide +kernel
theorem dX8_init_130 : decode cX8_init 130 = .ok (.iload_n 1, 1) := by decide +kernel
theorem dX8_init_131 : decode cX8_init 131 = .ok (.bipush 7, 2) := by decide +kernel
theorem dX8_init_133 : decode cX8_init 133 = .ok (.if_icmp .ge 23, 3) := by decide +kernel
theorem dX8_init_136 : decode cX8_init 136 = .ok (.aload_n 0, 1) := by decide +kernel
theorem dX8_init_137 : decode cX8_init 137 = .ok (.getfield 23, 3) := by decide +kernel
theorem dX8_init_140 : decode cX8_init 140 = .ok (.iload_n 1, 1) := by decide +kernel
theorem dX8_init_141 : decode cX8_init 141 = .ok (.new 21, 3) := by decide +kernel
theorem dX8_init_144 : decode cX8_init 144 = .ok (.dup, 1) := by decide +kernel
theorem dX8_init_145 : decode cX8_init 145 = .ok (.iload_n 1, 1) := by decide +kernel
theorem dX8_init_146 : decode cX8_init 146 = .ok (.invokespecial 55, 3) := by decide +kernel
theorem dX8_init_149 : decode cX8_init 149 = .ok (.aastore, 1) := by decide +kernel
theorem dX8_init_150 : decode cX8_init 150 = .ok (.iinc 1 1, 3) := by decide +kernel
theorem dX8_init_153 : decode cX8_init 153 = .ok (.goto (-23), 3) := by decide +kernel
theorem dX8_init_156 : decode cX8_init 156 = .ok (.return_, 1) := by decide +kernel
theorem dX8_hours_0 : decode cX8_hours 0 = .ok (.iload_n 1, 1) := by decide +kernel
theorem dX8_hours_1 : decode cX8_hours 1 = .ok (.invokestatic 56, 3) := by decide +kernel
theorem dX8_hours_4 : decode cX8_hours 4 = .ok (.ifCond .eq 21, 3) := by decide +kernel
theorem dX8_hours_7 : decode cX8_hours 7 = .ok (.aload_n 0, 1) := by decide +kernel
theorem dX8_hours_8 : decode cX8_hours 8 = .ok (.iload_n 2, 1) := by decide +kernel
theorem dX8_hours_9 : decode cX8_hours 9 = .ok (.invokevirtual 60, 3) := by decide +kernel
theorem dX8_hours_12 : decode cX8_hours 12 = .ok (.ifCond .eq 13, 3) := by decide +kernel
theorem dX8_hours_15 : decode cX8_hours 15 = .ok (.iload_n 3, 1) := by decide +kernel
theorem dX8_hours_16 : decode cX8_hours 16 = .ok (.iconst 0, 1) := by decide +kernel
theorem dX8_hours_17 : decode cX8_hours 17 = .ok (.bipush 99, 2) := by decide +kernel
theorem dX8_hours_19 : decode cX8_hours 19 = .ok (.invokestatic 63, 3) := by decide +kernel
theorem dX8_hours_22 : decode cX8_hours 22 = .ok (.ifCond .ne 5, 3) := by decide +kernel
theorem dX8_hours_25 : decode cX8_hours 25 = .ok (.iconst 0, 1) := by decide +kernel
theorem dX8_hours_26 : decode cX8_hours 26 = .ok (.ireturn, 1) := by decide +kernel
theorem dX8_hours_27 : decode cX8_hours 27 = .ok (.aload_n 0, 1) := by decide +kernel
theorem dX8_hours_28 : decode cX8_hours 28 = .ok (.getfield 11, 3) := by decide +kernel
theorem dX8_hours_31 : decode cX8_hours 31 = .ok (.iload_n 1, 1) := by decide +kernel
theorem dX8_hours_32 : decode cX8_hours 32 = .ok (.aaload, 1) := by decide +kernel
theorem dX8_hours_33 : decode cX8_hours 33 = .ok (.getfield 67, 3) := by decide +kernel
theorem dX8_hours_36 : decode cX8_hours 36 = .ok (.iload_n 2, 1) := by decide +kernel
theorem dX8_hours_37 : decode cX8_hours 37 = .ok (.iload_n 3, 1) := by decide +kernel
theorem dX8_hours_38 : decode cX8_hours 38 = .ok (.iastore, 1) := by decide +kernel
theorem dX8_hours_39 : decode cX8_hours 39 = .ok (.aload_n 0, 1) := by decide +kernel
theorem dX8_hours_40 : decode cX8_hours 40 = .ok (.iconst 0, 1) := by decide +kernel
theorem dX8_hours_41 : decode cX8_hours 41 = .ok (.putfield 71, 3) := by decide +kernel
theorem dX8_hours_44 : decode cX8_hours 44 = .ok (.iconst 1, 1) := by decide +kernel
theorem dX8_hours_45 : decode cX8_hours 45 = .ok (.ireturn, 1) := by decide +kernel
theorem dX8_pattern_0 : decode cX8_pattern 0 = .ok (.iload_n 1, 1) := by decide +kernel
theorem dX8_pattern_1 : decode cX8_pattern 1 = .ok (.invokestatic 75, 3) := by decide +kernel
theorem dX8_pattern_4 : decode cX8_pattern 4 = .ok (.ifCond .eq 34, 3) := by decide +kernel
theorem dX8_pattern_7 : decode cX8_pattern 7 = .ok (.iload_n 2, 1) := by decide +kernel
theorem dX8_pattern_8 : decode cX8_pattern 8 = .ok (.iconst 1, 1) := by decide +kernel
theorem dX8_pattern_9 : decode cX8_pattern 9 = .ok (.bipush 30, 2) := by decide +kernel
theorem dX8_pattern_11 : decode cX8_pattern 11 = .ok (.invokestatic 63, 3) := by decide +kernel
theorem dX8_pattern_14 : decode cX8_pattern 14 = .ok (.ifCond .eq 24, 3) := by decide +kernel
theorem dX8_pattern_17 : decode cX8_pattern 17 = .ok (.iload_n 3, 1) := by decide +kernel
theorem dX8_pattern_18 : decode cX8_pattern 18 = .ok (.iconst 0, 1) := by decide +kernel
theorem dX8_pattern_19 : decode cX8_pattern 19 = .ok (.bipush 20, 2) := by decide +kernel
theorem dX8_pattern_21 : decode cX8_pattern 21 = .ok (.invokestatic 63, 3) := by decide +kernel
theorem dX8_pattern_24 : decode cX8_pattern 24 = .ok (.ifCond .eq 14, 3) := by decide +kernel
theorem dX8_pattern_27 : decode cX8_pattern 27 = .ok (.iload 4, 2) := by decide +kernel
theorem dX8_pattern_29 : decode cX8_pattern 29 = .ok (.iconst 0, 1) := by decide +kernel
theorem dX8_pattern_30 : decode cX8_pattern 30 = .ok (.bipush 90, 2) := by decide +kernel
theorem dX8_pattern_32 : decode cX8_pattern 32 = .ok (.invokestatic 63, 3) := by decide +kernel
theorem dX8_pattern_35 : decode cX8_pattern 35 = .ok (.ifCond .ne 5, 3) := by decide +kernel
theorem dX8_pattern_38 : decode cX8_pattern 38 = .ok (.iconst 0, 1) := by decide +kernel
theorem dX8_pattern_39 : decode cX8_pattern 39 = .ok (.ireturn, 1) := by decide +kernel
theorem dX8_pattern_40 : decode cX8_pattern 40 = .ok (.aload_n 0, 1) := by decide +kernel
theorem dX8_pattern_41 : decode cX8_pattern 41 = .ok (.getfield 17, 3) := by decide +kernel
theorem dX8_pattern_44 : decode cX8_pattern 44 = .ok (.iload_n 1, 1) := by decide +kernel
theorem dX8_pattern_45 : decode cX8_pattern 45 = .ok (.aaload, 1) := by decide +kernel
theorem dX8_pattern_46 : decode cX8_pattern 46 = .ok (.iload_n 2, 1) := by decide +kernel
theorem dX8_pattern_47 : decode cX8_pattern 47 = .ok (.putfield 78, 3) := by decide +kernel
theorem dX8_pattern_50 : decode cX8_pattern 50 = .ok (.aload_n 0, 1) := by decide +kernel
theorem dX8_pattern_51 : decode cX8_pattern 51 = .ok (.getfield 17, 3) := by decide +kernel
theorem dX8_pattern_54 : decode cX8_pattern 54 = .ok (.iload_n 1, 1) := by decide +kernel
theorem dX8_pattern_55 : decode cX8_pattern 55 = .ok (.aaload, 1) := by decide +kernel
theorem dX8_pattern_56 : decode cX8_pattern 56 = .ok (.iload_n 3, 1) := by decide +kernel
theorem dX8_pattern_57 : decode cX8_pattern 57 = .ok (.putfield 81, 3) := by decide +kernel
theorem dX8_pattern_60 : decode cX8_pattern 60 = .ok (.aload_n 0, 1) := by decide +kernel
theorem dX8_pattern_61 : decode cX8_pattern 61 = .ok (.getfield 17, 3) := by decide +kernel
theorem dX8_pattern_64 : decode cX8_pattern 64 = .ok (.iload_n 1, 1) := by decide +kernel
theorem dX8_pattern_65 : decode cX8_pattern 65 = .ok (.aaload, 1) := by decide +kernel
theorem dX8_pattern_66 : decode cX8_pattern 66 = .ok (.iload 4, 2) := by decide +kernel
theorem dX8_pattern_68 : decode cX8_pattern 68 = .ok (.putfield 84, 3) := by decide +kernel
theorem dX8_pattern_71 : decode cX8_pattern 71 = .ok (.iconst 0, 1) := by decide +kernel
theorem dX8_pattern_72 : decode cX8_pattern 72 = .ok (.istore 5, 2) := by decide +kernel
theorem dX8_pattern_74 : decode cX8_pattern 74 = .ok (.iload 5, 2) := by decide +kernel
theorem dX8_pattern_76 : decode cX8_pattern 76 = .ok (.aload_n 0, 1) := by decide +kernel
theorem dX8_pattern_77 : decode cX8_pattern 77 = .ok (.getfield 87, 3) := by decide +kernel
theorem dX8_pattern_80 : decode cX8_pattern 80 = .ok (.if_icmp .ge 52, 3) := by decide +kernel
theorem dX8_pattern_83 : decode cX8_pattern 83 = .ok (.aload_n 0, 1) := by decide +kernel
theorem dX8_pattern_84 : decode cX8_pattern 84 = .ok (.getfield 23, 3) := by decide +kernel
theorem dX8_pattern_87 : decode cX8_pattern 87 = .ok (.iload 5, 2) := by decide +kernel
theorem dX8_pattern_89 : decode cX8_pattern 89 = .ok (.aaload, 1) := by decide +kernel
theorem dX8_pattern_90 : decode cX8_pattern 90 = .ok (.getfield 90, 3) := by decide +kernel
theorem dX8_pattern_93 : decode cX8_pattern 93 = .ok (.ifCond .ne 33, 3) := by decide +kernel
theorem dX8_pattern_96 : decode cX8_pattern 96 = .ok (.aload_n 0, 1) := by decide +kernel
theorem dX8_pattern_97 : decode cX8_pattern 97 = .ok (.getfield 23, 3) := by decide +kernel
theorem dX8_pattern_100 : decode cX8_pattern 100 = .ok (.iload 5, 2) := by decide +kernel
theorem dX8_pattern_102 : decode cX8_pattern 102 = .ok (.aaload, 1) := by decide +kernel
theorem dX8_pattern_103 : decode cX8_pattern 103 = .ok (.getfield 93, 3) := by decide +kernel
theorem dX8_pattern_106 : decode cX8_pattern 106 = .ok (.iload_n 1, 1) := by decide +kernel
theorem dX8_pattern_107 : decode cX8_pattern 107 = .ok (.if_icmp .ne 19, 3) := by decide +kernel
theorem dX8_pattern_110 : decode cX8_pattern 110 = .ok (.aload_n 0, 1) := by decide +kernel
theorem dX8_pattern_111 : decode cX8_pattern 111 = .ok (.getfield 23, 3) := by decide +kernel
theorem dX8_pattern_114 : decode cX8_pattern 114 = .ok (.iload 5, 2) := by decide +kernel
theorem dX8_pattern_116 : decode cX8_pattern 116 = .ok (.aaload, 1) := by decide +kernel
theorem dX8_pattern_117 : decode cX8_pattern 117 = .ok (.aload_n 0, 1) := by decide +kernel
theorem dX8_pattern_118 : decode cX8_pattern 118 = .ok (.getfield 17, 3) := by decide +kernel
theorem dX8_pattern_121 : decode cX8_pattern 121 = .ok (.iload_n 1, 1) := by decide +kernel
theorem dX8_pattern_122 : decode cX8_pattern 122 = .ok (.aaload, 1) := by decide +kernel
theorem dX8_pattern_123 : decode cX8_pattern 123 = .ok (.invokevirtual 96, 3) := by decide +kernel
theorem dX8_pattern_126 : decode cX8_pattern 126 = .ok (.iinc 5 1, 3) := by decide +kernel
theorem dX8_pattern_129 : decode cX8_pattern 129 = .ok (.goto (-55), 3) := by decide +kernel
theorem dX8_pattern_132 : decode cX8_pattern 132 = .ok (.aload_n 0, 1) := by decide +kernel
theorem dX8_pattern_133 : decode cX8_pattern 133 = .ok (.iconst 0, 1) := by decide +kernel
theorem dX8_pattern_134 : decode cX8_pattern 134 = .ok (.putfield 71, 3) := by decide +kernel
theorem dX8_pattern_137 : decode cX8_pattern 137 = .ok (.iconst 1, 1) := by decide +kernel
theorem dX8_pattern_138 : decode cX8_pattern 138 = .ok (.ireturn, 1) := by decide +kernel
theorem dX8_lend_0 : decode cX8_lend 0 = .ok (.iload_n 1, 1) := by decide +kernel
theorem dX8_lend_1 : decode cX8_lend 1 = .ok (.invokestatic 56, 3) := by decide +kernel
theorem dX8_lend_4 : decode cX8_lend 4 = .ok (.ifCond .eq 30, 3) := by decide +kernel
theorem dX8_lend_7 : decode cX8_lend 7 = .ok (.iload_n 2, 1) := by decide +kernel
theorem dX8_lend_8 : decode cX8_lend 8 = .ok (.iconst 1, 1) := by decide +kernel
theorem dX8_lend_9 : decode cX8_lend 9 = .ok (.sipush 9999, 3) := by decide +kernel
theorem dX8_lend_12 : decode cX8_lend 12 = .ok (.invokestatic 63, 3) := by decide +kernel
theorem dX8_lend_15 : decode cX8_lend 15 = .ok (.ifCond .eq 19, 3) := by decide +kernel
theorem dX8_lend_18 : decode cX8_lend 18 = .ok (.aload_n 0, 1) := by decide +kernel
theorem dX8_lend_19 : decode cX8_lend 19 = .ok (.getfield 11, 3) := by decide +kernel
theorem dX8_lend_22 : decode cX8_lend 22 = .ok (.iload_n 1, 1) := by decide +kernel
theorem dX8_lend_23 : decode cX8_lend 23 = .ok (.aaload, 1) := by decide +kernel
theorem dX8_lend_24 : decode cX8_lend 24 = .ok (.getfield 100, 3) := by decide +kernel
theorem dX8_lend_27 : decode cX8_lend 27 = .ok (.iload_n 2, 1) := by decide +kernel
theorem dX8_lend_28 : decode cX8_lend 28 = .ok (.iadd, 1) := by decide +kernel
theorem dX8_lend_29 : decode cX8_lend 29 = .ok (.ldc 101, 2) := by decide +kernel
theorem dX8_lend_31 : decode cX8_lend 31 = .ok (.if_icmp .le 5, 3) := by decide +kernel
theorem dX8_lend_34 : decode cX8_lend 34 = .ok (.iconst 0, 1) := by decide +kernel
theorem dX8_lend_35 : decode cX8_lend 35 = .ok (.ireturn, 1) := by decide +kernel
theorem dX8_lend_36 : decode cX8_lend 36 = .ok (.aload_n 0, 1) := by decide +kernel
theorem dX8_lend_37 : decode cX8_lend 37 = .ok (.getfield 11, 3) := by decide +kernel
theorem dX8_lend_40 : decode cX8_lend 40 = .ok (.iload_n 1, 1) := by decide +kernel
theorem dX8_lend_41 : decode cX8_lend 41 = .ok (.aaload, 1) := by decide +kernel
theorem dX8_lend_42 : decode cX8_lend 42 = .ok (.dup, 1) := by decide +kernel
theorem dX8_lend_43 : decode cX8_lend 43 = .ok (.getfield 100, 3) := by decide +kernel
theorem dX8_lend_46 : decode cX8_lend 46 = .ok (.iload_n 2, 1) := by decide +kernel
theorem dX8_lend_47 : decode cX8_lend 47 = .ok (.iadd, 1) := by decide +kernel
theorem dX8_lend_48 : decode cX8_lend 48 = .ok (.putfield 100, 3) := by decide +kernel
theorem dX8_lend_51 : decode cX8_lend 51 = .ok (.aload_n 0, 1) := by decide +kernel
theorem dX8_lend_52 : decode cX8_lend 52 = .ok (.iconst 0, 1) := by decide +kernel
theorem dX8_lend_53 : decode cX8_lend 53 = .ok (.putfield 71, 3) := by decide +kernel
theorem dX8_lend_56 : decode cX8_lend 56 = .ok (.iconst 1, 1) := by decide +kernel
theorem dX8_lend_57 : decode cX8_lend 57 = .ok (.ireturn, 1) := by decide +kernel
theorem dX8_bring_0 : decode cX8_bring 0 = .ok (.iload_n 1, 1) := by decide +kernel
theorem dX8_bring_1 : decode cX8_bring 1 = .ok (.invokestatic 56, 3) := by decide +kernel
theorem dX8_bring_4 : decode cX8_bring 4 = .ok (.ifCond .ne 5, 3) := by decide +kernel
theorem dX8_bring_7 : decode cX8_bring 7 = .ok (.iconst (-1), 1) := by decide +kernel
theorem dX8_bring_8 : decode cX8_bring 8 = .ok (.ireturn, 1) := by decide +kernel
theorem dX8_bring_9 : decode cX8_bring 9 = .ok (.aload_n 0, 1) := by decide +kernel
theorem dX8_bring_10 : decode cX8_bring 10 = .ok (.getfield 11, 3) := by decide +kernel
theorem dX8_bring_13 : decode cX8_bring 13 = .ok (.iload_n 1, 1) := by decide +kernel
theorem dX8_bring_14 : decode cX8_bring 14 = .ok (.aaload, 1) := by decide +kernel
theorem dX8_bring_15 : decode cX8_bring 15 = .ok (.getfield 100, 3) := by decide +kernel
theorem dX8_bring_18 : decode cX8_bring 18 = .ok (.istore_n 2, 1) := by decide +kernel
theorem dX8_bring_19 : decode cX8_bring 19 = .ok (.aload_n 0, 1) := by decide +kernel
theorem dX8_bring_20 : decode cX8_bring 20 = .ok (.getfield 11, 3) := by decide +kernel
theorem dX8_bring_23 : decode cX8_bring 23 = .ok (.iload_n 1, 1) := by decide +kernel
theorem dX8_bring_24 : decode cX8_bring 24 = .ok (.aaload, 1) := by decide +kernel
theorem dX8_bring_25 : decode cX8_bring 25 = .ok (.iconst 0, 1) := by decide +kernel
theorem dX8_bring_26 : decode cX8_bring 26 = .ok (.putfield 100, 3) := by decide +kernel
theorem dX8_bring_29 : decode cX8_bring 29 = .ok (.aload_n 0, 1) := by decide +kernel
theorem dX8_bring_30 : decode cX8_bring 30 = .ok (.iconst 0, 1) := by decide +kernel
theorem dX8_bring_31 : decode cX8_bring 31 = .ok (.putfield 71, 3) := by decide +kernel
theorem dX8_bring_34 : decode cX8_bring 34 = .ok (.iload_n 2, 1) := by decide +kernel
theorem dX8_bring_35 : decode cX8_bring 35 = .ok (.ireturn, 1) := by decide +kernel
theorem dX8_order_0 : decode cX8_order 0 = .ok (.iload_n 1, 1) := by decide +kernel
theorem dX8_order_1 : decode cX8_order 1 = .ok (.invokestatic 75, 3) := by decide +kernel
theorem dX8_order_4 : decode cX8_order 4 = .ok (.ifCond .eq 42, 3) := by decide +kernel
theorem dX8_order_7 : decode cX8_order 7 = .ok (.iload_n 2, 1) := by decide +kernel
theorem dX8_order_8 : decode cX8_order 8 = .ok (.iconst 1, 1) := by decide +kernel
theorem dX8_order_9 : decode cX8_order 9 = .ok (.bipush 20, 2) := by decide +kernel
theorem dX8_order_11 : decode cX8_order 11 = .ok (.invokestatic 63, 3) := by decide +kernel
theorem dX8_order_14 : decode cX8_order 14 = .ok (.ifCond .eq 32, 3) := by decide +kernel
theorem dX8_order_17 : decode cX8_order 17 = .ok (.aload_n 0, 1) := by decide +kernel
theorem dX8_order_18 : decode cX8_order 18 = .ok (.iload_n 3, 1) := by decide +kernel
theorem dX8_order_19 : decode cX8_order 19 = .ok (.invokevirtual 60, 3) := by decide +kernel
theorem dX8_order_22 : decode cX8_order 22 = .ok (.ifCond .eq 24, 3) := by decide +kernel
theorem dX8_order_25 : decode cX8_order 25 = .ok (.iload 4, 2) := by decide +kernel
theorem dX8_order_27 : decode cX8_order 27 = .ok (.iconst 1, 1) := by decide +kernel
theorem dX8_order_28 : decode cX8_order 28 = .ok (.sipush 9999, 3) := by decide +kernel
theorem dX8_order_31 : decode cX8_order 31 = .ok (.invokestatic 63, 3) := by decide +kernel
theorem dX8_order_34 : decode cX8_order 34 = .ok (.ifCond .eq 12, 3) := by decide +kernel
theorem dX8_order_37 : decode cX8_order 37 = .ok (.aload_n 0, 1) := by decide +kernel
theorem dX8_order_38 : decode cX8_order 38 = .ok (.getfield 87, 3) := by decide +kernel
theorem dX8_order_41 : decode cX8_order 41 = .ok (.bipush 7, 2) := by decide +kernel
theorem dX8_order_43 : decode cX8_order 43 = .ok (.if_icmp .lt 5, 3) := by decide +kernel
theorem dX8_order_46 : decode cX8_order 46 = .ok (.iconst (-1), 1) := by decide +kernel
theorem dX8_order_47 : decode cX8_order 47 = .ok (.ireturn, 1) := by decide +kernel
theorem dX8_order_48 : decode cX8_order 48 = .ok (.aload_n 0, 1) := by decide +kernel
theorem dX8_order_49 : decode cX8_order 49 = .ok (.getfield 23, 3) := by decide +kernel
theorem dX8_order_52 : decode cX8_order 52 = .ok (.aload_n 0, 1) := by decide +kernel
theorem dX8_order_53 : decode cX8_order 53 = .ok (.getfield 87, 3) := by decide +kernel
theorem dX8_order_56 : decode cX8_order 56 = .ok (.aaload, 1) := by decide +kernel
theorem dX8_order_57 : decode cX8_order 57 = .ok (.astore 5, 2) := by decide +kernel
theorem dX8_order_59 : decode cX8_order 59 = .ok (.aload 5, 2) := by decide +kernel
theorem dX8_order_61 : decode cX8_order 61 = .ok (.iload_n 1, 1) := by decide +kernel
theorem dX8_order_62 : decode cX8_order 62 = .ok (.putfield 93, 3) := by decide +kernel
theorem dX8_order_65 : decode cX8_order 65 = .ok (.aload 5, 2) := by decide +kernel
theorem dX8_order_67 : decode cX8_order 67 = .ok (.iload_n 2, 1) := by decide +kernel
theorem dX8_order_68 : decode cX8_order 68 = .ok (.putfield 102, 3) := by decide +kernel
theorem dX8_order_71 : decode cX8_order 71 = .ok (.aload 5, 2) := by decide +kernel
theorem dX8_order_73 : decode cX8_order 73 = .ok (.iload_n 3, 1) := by decide +kernel
theorem dX8_order_74 : decode cX8_order 74 = .ok (.putfield 105, 3) := by decide +kernel
theorem dX8_order_77 : decode cX8_order 77 = .ok (.aload 5, 2) := by decide +kernel
theorem dX8_order_79 : decode cX8_order 79 = .ok (.iload 4, 2) := by decide +kernel
theorem dX8_order_81 : decode cX8_order 81 = .ok (.putfield 108, 3) := by decide +kernel
theorem dX8_order_84 : decode cX8_order 84 = .ok (.aload 5, 2) := by decide +kernel
theorem dX8_order_86 : decode cX8_order 86 = .ok (.aload_n 0, 1) := by decide +kernel
theorem dX8_order_87 : decode cX8_order 87 = .ok (.getfield 17, 3) := by decide +kernel
theorem dX8_order_90 : decode cX8_order 90 = .ok (.iload_n 1, 1) := by decide +kernel
theorem dX8_order_91 : decode cX8_order 91 = .ok (.aaload, 1) := by decide +kernel
theorem dX8_order_92 : decode cX8_order 92 = .ok (.invokevirtual 96, 3) := by decide +kernel
theorem dX8_order_95 : decode cX8_order 95 = .ok (.aload_n 0, 1) := by decide +kernel
theorem dX8_order_96 : decode cX8_order 96 = .ok (.dup, 1) := by decide +kernel
theorem dX8_order_97 : decode cX8_order 97 = .ok (.getfield 87, 3) := by decide +kernel
theorem dX8_order_100 : decode cX8_order 100 = .ok (.iconst 1, 1) := by decide +kernel
theorem dX8_order_101 : decode cX8_order 101 = .ok (.iadd, 1) := by decide +kernel
theorem dX8_order_102 : decode cX8_order 102 = .ok (.putfield 87, 3) := by decide +kernel
theorem dX8_order_105 : decode cX8_order 105 = .ok (.aload_n 0, 1) := by decide +kernel
theorem dX8_order_106 : decode cX8_order 106 = .ok (.iconst 0, 1) := by decide +kernel
theorem dX8_order_107 : decode cX8_order 107 = .ok (.putfield 71, 3) := by decide +kernel
theorem dX8_order_110 : decode cX8_order 110 = .ok (.aload 5, 2) := by decide +kernel
theorem dX8_order_112 : decode cX8_order 112 = .ok (.getfield 111, 3) := by decide +kernel
theorem dX8_order_115 : decode cX8_order 115 = .ok (.ireturn, 1) := by decide +kernel
theorem dX8_drop_0 : decode cX8_drop 0 = .ok (.aload_n 0, 1) := by decide +kernel
theorem dX8_drop_1 : decode cX8_drop 1 = .ok (.iload_n 1, 1) := by decide +kernel
theorem dX8_drop_2 : decode cX8_drop 2 = .ok (.invokevirtual 114, 3) := by decide +kernel
theorem dX8_drop_5 : decode cX8_drop 5 = .ok (.ifCond .eq 15, 3) := by decide +kernel
theorem dX8_drop_8 : decode cX8_drop 8 = .ok (.aload_n 0, 1) := by decide +kernel
theorem dX8_drop_9 : decode cX8_drop 9 = .ok (.getfield 23, 3) := by decide +kernel
theorem dX8_drop_12 : decode cX8_drop 12 = .ok (.iload_n 1, 1) := by decide +kernel
theorem dX8_drop_13 : decode cX8_drop 13 = .ok (.aaload, 1) := by decide +kernel
theorem dX8_drop_14 : decode cX8_drop 14 = .ok (.getfield 90, 3) := by decide +kernel
theorem dX8_drop_17 : decode cX8_drop 17 = .ok (.ifCond .eq 5, 3) := by decide +kernel
theorem dX8_drop_20 : decode cX8_drop 20 = .ok (.iconst 0, 1) := by decide +kernel
theorem dX8_drop_21 : decode cX8_drop 21 = .ok (.ireturn, 1) := by decide +kernel
theorem dX8_drop_22 : decode cX8_drop 22 = .ok (.aload_n 0, 1) := by decide +kernel
theorem dX8_drop_23 : decode cX8_drop 23 = .ok (.getfield 23, 3) := by decide +kernel
theorem dX8_drop_26 : decode cX8_drop 26 = .ok (.iload_n 1, 1) := by decide +kernel
theorem dX8_drop_27 : decode cX8_drop 27 = .ok (.aaload, 1) := by decide +kernel
theorem dX8_drop_28 : decode cX8_drop 28 = .ok (.iconst 2, 1) := by decide +kernel
theorem dX8_drop_29 : decode cX8_drop 29 = .ok (.putfield 90, 3) := by decide +kernel
theorem dX8_drop_32 : decode cX8_drop 32 = .ok (.aload_n 0, 1) := by decide +kernel
theorem dX8_drop_33 : decode cX8_drop 33 = .ok (.iconst 0, 1) := by decide +kernel
theorem dX8_drop_34 : decode cX8_drop 34 = .ok (.putfield 71, 3) := by decide +kernel
theorem dX8_drop_37 : decode cX8_drop 37 = .ok (.iconst 1, 1) := by decide +kernel
theorem dX8_drop_38 : decode cX8_drop 38 = .ok (.ireturn, 1) := by decide +kernel
theorem dX8_feed_0 : decode cX8_feed 0 = .ok (.aload_n 0, 1) := by decide +kernel
theorem dX8_feed_1 : decode cX8_feed 1 = .ok (.getfield 30, 3) := by decide +kernel
theorem dX8_feed_4 : decode cX8_feed 4 = .ok (.getfield 117, 3) := by decide +kernel
theorem dX8_feed_7 : decode cX8_feed 7 = .ok (.astore 6, 2) := by decide +kernel
theorem dX8_feed_9 : decode cX8_feed 9 = .ok (.aload 6, 2) := by decide +kernel
theorem dX8_feed_11 : decode cX8_feed 11 = .ok (.getfield 121, 3) := by decide +kernel
theorem dX8_feed_14 : decode cX8_feed 14 = .ok (.bipush 20, 2) := by decide +kernel
theorem dX8_feed_16 : decode cX8_feed 16 = .ok (.iadd, 1) := by decide +kernel
theorem dX8_feed_17 : decode cX8_feed 17 = .ok (.sipush 500, 3) := by decide +kernel
theorem dX8_feed_20 : decode cX8_feed 20 = .ok (.if_icmp .le 5, 3) := by decide +kernel
theorem dX8_feed_23 : decode cX8_feed 23 = .ok (.iconst (-1), 1) := by decide +kernel
theorem dX8_feed_24 : decode cX8_feed 24 = .ok (.ireturn, 1) := by decide +kernel
theorem dX8_feed_25 : decode cX8_feed 25 = .ok (.aload 6, 2) := by decide +kernel
theorem dX8_feed_27 : decode cX8_feed 27 = .ok (.iload_n 1, 1) := by decide +kernel
theorem dX8_feed_28 : decode cX8_feed 28 = .ok (.invokevirtual 126, 3) := by decide +kernel
theorem dX8_feed_31 : decode cX8_feed 31 = .ok (.aload 6, 2) := by decide +kernel
theorem dX8_feed_33 : decode cX8_feed 33 = .ok (.iload_n 2, 1) := by decide +kernel
theorem dX8_feed_34 : decode cX8_feed 34 = .ok (.invokevirtual 126, 3) := by decide +kernel
theorem dX8_feed_37 : decode cX8_feed 37 = .ok (.aload 6, 2) := by decide +kernel
theorem dX8_feed_39 : decode cX8_feed 39 = .ok (.iload_n 3, 1) := by decide +kernel
theorem dX8_feed_40 : decode cX8_feed 40 = .ok (.invokevirtual 126, 3) := by decide +kernel
theorem dX8_feed_43 : decode cX8_feed 43 = .ok (.aload 6, 2) := by decide +kernel
theorem dX8_feed_45 : decode cX8_feed 45 = .ok (.iload 4, 2) := by decide +kernel
theorem dX8_feed_47 : decode cX8_feed 47 = .ok (.invokevirtual 126, 3) := by decide +kernel
theorem dX8_feed_50 : decode cX8_feed 50 = .ok (.aload 6, 2) := by decide +kernel
theorem dX8_feed_52 : decode cX8_feed 52 = .ok (.iload 5, 2) := by decide +kernel
theorem dX8_feed_54 : decode cX8_feed 54 = .ok (.invokevirtual 126, 3) := by decide +kernel
theorem dX8_feed_57 : decode cX8_feed 57 = .ok (.aload 6, 2) := by decide +kernel
theorem dX8_feed_59 : decode cX8_feed 59 = .ok (.getfield 121, 3) := by decide +kernel
theorem dX8_feed_62 : decode cX8_feed 62 = .ok (.ireturn, 1) := by decide +kernel
theorem dX8_end_0 : decode cX8_end 0 = .ok (.iload_n 1, 1) := by decide +kernel
theorem dX8_end_1 : decode cX8_end 1 = .ok (.iconst 0, 1) := by decide +kernel
theorem dX8_end_2 : decode cX8_end 2 = .ok (.aload_n 0, 1) := by decide +kernel
theorem dX8_end_3 : decode cX8_end 3 = .ok (.getfield 30, 3) := by decide +kernel
theorem dX8_end_6 : decode cX8_end 6 = .ok (.getfield 117, 3) := by decide +kernel
theorem dX8_end_9 : decode cX8_end 9 = .ok (.getfield 121, 3) := by decide +kernel
theorem dX8_end_12 : decode cX8_end 12 = .ok (.invokestatic 63, 3) := by decide +kernel
theorem dX8_end_15 : decode cX8_end 15 = .ok (.ifCond .ne 5, 3) := by decide +kernel
theorem dX8_end_18 : decode cX8_end 18 = .ok (.iconst 0, 1) := by decide +kernel
theorem dX8_end_19 : decode cX8_end 19 = .ok (.ireturn, 1) := by decide +kernel
theorem dX8_end_20 : decode cX8_end 20 = .ok (.aload_n 0, 1) := by decide +kernel
theorem dX8_end_21 : decode cX8_end 21 = .ok (.getfield 30, 3) := by decide +kernel
theorem dX8_end_24 : decode cX8_end 24 = .ok (.getfield 117, 3) := by decide +kernel
theorem dX8_end_27 : decode cX8_end 27 = .ok (.iload_n 1, 1) := by decide +kernel
theorem dX8_end_28 : decode cX8_end 28 = .ok (.putfield 121, 3) := by decide +kernel
theorem dX8_end_31 : decode cX8_end 31 = .ok (.iconst 1, 1) := by decide +kernel
theorem dX8_end_32 : decode cX8_end 32 = .ok (.ireturn, 1) := by decide +kernel
theorem dX8_custom_0 : decode cX8_custom 0 = .ok (.aload_n 0, 1) := by decide +kernel
theorem dX8_custom_1 : decode cX8_custom 1 = .ok (.getfield 30, 3) := by decide +kernel
theorem dX8_custom_4 : decode cX8_custom 4 = .ok (.aload_n 0, 1) := by decide +kernel
theorem dX8_custom_5 : decode cX8_custom 5 = .ok (.getfield 48, 3) := by decide +kernel
theorem dX8_custom_8 : decode cX8_custom 8 = .ok (.invokevirtual 129, 3) := by decide +kernel
theorem dX8_custom_11 : decode cX8_custom 11 = .ok (.istore_n 1, 1) := by decide +kernel
theorem dX8_custom_12 : decode cX8_custom 12 = .ok (.aload_n 0, 1) := by decide +kernel
theorem dX8_custom_13 : decode cX8_custom 13 = .ok (.getfield 30, 3) := by decide +kernel
theorem dX8_custom_16 : decode cX8_custom 16 = .ok (.getfield 117, 3) := by decide +kernel
theorem dX8_custom_19 : decode cX8_custom 19 = .ok (.iconst 0, 1) := by decide +kernel
theorem dX8_custom_20 : decode cX8_custom 20 = .ok (.putfield 121, 3) := by decide +kernel
theorem dX8_custom_23 : decode cX8_custom 23 = .ok (.iload_n 1, 1) := by decide +kernel
theorem dX8_custom_24 : decode cX8_custom 24 = .ok (.ifCond .ne 5, 3) := by decide +kernel
theorem dX8_custom_27 : decode cX8_custom 27 = .ok (.iconst (-1), 1) := by decide +kernel
theorem dX8_custom_28 : decode cX8_custom 28 = .ok (.ireturn, 1) := by decide +kernel
theorem dX8_custom_29 : decode cX8_custom 29 = .ok (.aload_n 0, 1) := by decide +kernel
theorem dX8_custom_30 : decode cX8_custom 30 = .ok (.getfield 44, 3) := by decide +kernel
theorem dX8_custom_33 : decode cX8_custom 33 = .ok (.astore_n 2, 1) := by decide +kernel
theorem dX8_custom_34 : decode cX8_custom 34 = .ok (.aload_n 0, 1) := by decide +kernel
theorem dX8_custom_35 : decode cX8_custom 35 = .ok (.aload_n 0, 1) := by decide +kernel
theorem dX8_custom_36 : decode cX8_custom 36 = .ok (.getfield 48, 3) := by decide +kernel
theorem dX8_custom_39 : decode cX8_custom 39 = .ok (.putfield 44, 3) := by decide +kernel
theorem dX8_custom_42 : decode cX8_custom 42 = .ok (.aload_n 0, 1) := by decide +kernel
theorem dX8_custom_43 : decode cX8_custom 43 = .ok (.aload_n 2, 1) := by decide +kernel
theorem dX8_custom_44 : decode cX8_custom 44 = .ok (.putfield 48, 3) := by decide +kernel
theorem dX8_custom_47 : decode cX8_custom 47 = .ok (.aload_n 0, 1) := by decide +kernel
theorem dX8_custom_48 : decode cX8_custom 48 = .ok (.iconst 0, 1) := by decide +kernel
theorem dX8_custom_49 : decode cX8_custom 49 = .ok (.putfield 71, 3) := by decide +kernel
theorem dX8_custom_52 : decode cX8_custom 52 = .ok (.aload_n 0, 1) := by decide +kernel
theorem dX8_custom_53 : decode cX8_custom 53 = .ok (.getfield 30, 3) := by decide +kernel
theorem dX8_custom_56 : decode cX8_custom 56 = .ok (.getfield 133, 3) := by decide +kernel
theorem dX8_custom_59 : decode cX8_custom 59 = .ok (.ireturn, 1) := by decide +kernel
theorem dX8_fault_0 : decode cX8_fault 0 = .ok (.iload_n 1, 1) := by decide +kernel
theorem dX8_fault_1 : decode cX8_fault 1 = .ok (.lookupswitch 43 #[(0, 27), (1, 35)], 27) := by decide +kernel
theorem dX8_fault_28 : decode cX8_fault 28 = .ok (.aload_n 0, 1) := by decide +kernel
theorem dX8_fault_29 : decode cX8_fault 29 = .ok (.getfield 30, 3) := by decide +kernel
theorem dX8_fault_32 : decode cX8_fault 32 = .ok (.getfield 136, 3) := by decide +kernel
theorem dX8_fault_35 : decode cX8_fault 35 = .ok (.ireturn, 1) := by decide +kernel
theorem dX8_fault_36 : decode cX8_fault 36 = .ok (.aload_n 0, 1) := by decide +kernel
theorem dX8_fault_37 : decode cX8_fault 37 = .ok (.getfield 30, 3) := by decide +kernel
theorem dX8_fault_40 : decode cX8_fault 40 = .ok (.getfield 139, 3) := by decide +kernel
theorem dX8_fault_43 : decode cX8_fault 43 = .ok (.ireturn, 1) := by decide +kernel
theorem dX8_fault_44 : decode cX8_fault 44 = .ok (.iconst (-1), 1) := by decide +kernel
theorem dX8_fault_45 : decode cX8_fault 45 = .ok (.ireturn, 1) := by decide +kernel
theorem dX8_may_0 : decode cX8_may 0 = .ok (.iload_n 1, 1) := by decide +kernel
theorem dX8_may_1 : decode cX8_may 1 = .ok (.invokestatic 56, 3) := by decide +kernel
theorem dX8_may_4 : decode cX8_may 4 = .ok (.ifCond .eq 20, 3) := by decide +kernel
theorem dX8_may_7 : decode cX8_may 7 = .ok (.iload_n 2, 1) := by decide +kernel
theorem dX8_may_8 : decode cX8_may 8 = .ok (.invokestatic 75, 3) := by decide +kernel
theorem dX8_may_11 : decode cX8_may 11 = .ok (.ifCond .eq 13, 3) := by decide +kernel
theorem dX8_may_14 : decode cX8_may 14 = .ok (.iload_n 3, 1) := by decide +kernel
theorem dX8_may_15 : decode cX8_may 15 = .ok (.iconst 0, 1) := by decide +kernel
theorem dX8_may_16 : decode cX8_may 16 = .ok (.bipush 51, 2) := by decide +kernel
theorem dX8_may_18 : decode cX8_may 18 = .ok (.invokestatic 63, 3) := by decide +kernel
theorem dX8_may_21 : decode cX8_may 21 = .ok (.ifCond .ne 5, 3) := by decide +kernel
theorem dX8_may_24 : decode cX8_may 24 = .ok (.iconst (-1), 1) := by decide +kernel
theorem dX8_may_25 : decode cX8_may 25 = .ok (.ireturn, 1) := by decide +kernel
theorem dX8_may_26 : decode cX8_may 26 = .ok (.aload_n 0, 1) := by decide +kernel
theorem dX8_may_27 : decode cX8_may 27 = .ok (.getfield 44, 3) := by decide +kernel
theorem dX8_may_30 : decode cX8_may 30 = .ok (.iload_n 1, 1) := by decide +kernel
theorem dX8_may_31 : decode cX8_may 31 = .ok (.iload_n 2, 1) := by decide +kernel
theorem dX8_may_32 : decode cX8_may 32 = .ok (.iload_n 3, 1) := by decide +kernel
theorem dX8_may_33 : decode cX8_may 33 = .ok (.invokevirtual 142, 3) := by decide +kernel
theorem dX8_may_36 : decode cX8_may 36 = .ok (.ifCond .eq 7, 3) := by decide +kernel
theorem dX8_may_39 : decode cX8_may 39 = .ok (.iconst 1, 1) := by decide +kernel
theorem dX8_may_40 : decode cX8_may 40 = .ok (.goto 4, 3) := by decide +kernel
theorem dX8_may_43 : decode cX8_may 43 = .ok (.iconst 0, 1) := by decide +kernel
theorem dX8_may_44 : decode cX8_may 44 = .ok (.ireturn, 1) := by decide +kernel
theorem dX8_look_0 : decode cX8_look 0 = .ok (.iload_n 1, 1) := by decide +kernel
theorem dX8_look_1 : decode cX8_look 1 = .ok (.bipush 10, 2) := by decide +kernel
theorem dX8_look_3 : decode cX8_look 3 = .ok (.isub, 1) := by decide +kernel
theorem dX8_look_4 : decode cX8_look 4 = .ok (.invokestatic 56, 3) := by decide +kernel
theorem dX8_look_7 : decode cX8_look 7 = .ok (.ifCond .eq 16, 3) := by decide +kernel
theorem dX8_look_10 : decode cX8_look 10 = .ok (.aload_n 0, 1) := by decide +kernel
theorem dX8_look_11 : decode cX8_look 11 = .ok (.getfield 11, 3) := by decide +kernel
theorem dX8_look_14 : decode cX8_look 14 = .ok (.iload_n 1, 1) := by decide +kernel
theorem dX8_look_15 : decode cX8_look 15 = .ok (.bipush 10, 2) := by decide +kernel
theorem dX8_look_17 : decode cX8_look 17 = .ok (.isub, 1) := by decide +kernel
theorem dX8_look_18 : decode cX8_look 18 = .ok (.aaload, 1) := by decide +kernel
theorem dX8_look_19 : decode cX8_look 19 = .ok (.getfield 100, 3) := by decide +kernel
theorem dX8_look_22 : decode cX8_look 22 = .ok (.ireturn, 1) := by decide +kernel
theorem dX8_look_23 : decode cX8_look 23 = .ok (.iload_n 1, 1) := by decide +kernel
theorem dX8_look_24 : decode cX8_look 24 = .ok (.bipush 20, 2) := by decide +kernel
theorem dX8_look_26 : decode cX8_look 26 = .ok (.isub, 1) := by decide +kernel
theorem dX8_look_27 : decode cX8_look 27 = .ok (.invokestatic 56, 3) := by decide +kernel
theorem dX8_look_30 : decode cX8_look 30 = .ok (.ifCond .eq 16, 3) := by decide +kernel
theorem dX8_look_33 : decode cX8_look 33 = .ok (.aload_n 0, 1) := by decide +kernel
theorem dX8_look_34 : decode cX8_look 34 = .ok (.getfield 11, 3) := by decide +kernel
theorem dX8_look_37 : decode cX8_look 37 = .ok (.iload_n 1, 1) := by decide +kernel
theorem dX8_look_38 : decode cX8_look 38 = .ok (.bipush 20, 2) := by decide +kernel
theorem dX8_look_40 : decode cX8_look 40 = .ok (.isub, 1) := by decide +kernel
theorem dX8_look_41 : decode cX8_look 41 = .ok (.aaload, 1) := by decide +kernel
theorem dX8_look_42 : decode cX8_look 42 = .ok (.getfield 145, 3) := by decide +kernel
theorem dX8_look_45 : decode cX8_look 45 = .ok (.ireturn, 1) := by decide +kernel
theorem dX8_look_46 : decode cX8_look 46 = .ok (.iload_n 1, 1) := by decide +kernel
theorem dX8_look_47 : decode cX8_look 47 = .ok (.tableswitch 70 0 5 #[37, 42, 47, 53, 59, 65], 37) := by decide +kernel
theorem dX8_look_84 : decode cX8_look 84 = .ok (.aload_n 0, 1) := by decide +kernel
theorem dX8_look_85 : decode cX8_look 85 = .ok (.getfield 148, 3) := by decide +kernel
theorem dX8_look_88 : decode cX8_look 88 = .ok (.ireturn, 1) := by decide +kernel
theorem dX8_look_89 : decode cX8_look 89 = .ok (.aload_n 0, 1) := by decide +kernel
theorem dX8_look_90 : decode cX8_look 90 = .ok (.getfield 87, 3) := by decide +kernel
theorem dX8_look_93 : decode cX8_look 93 = .ok (.ireturn, 1) := by decide +kernel
theorem dX8_look_94 : decode cX8_look 94 = .ok (.aload_n 0, 1) := by decide +kernel
theorem dX8_look_95 : decode cX8_look 95 = .ok (.iconst 0, 1) := by decide +kernel
theorem dX8_look_96 : decode cX8_look 96 = .ok (.invokevirtual 151, 3) := by decide +kernel
theorem dX8_look_99 : decode cX8_look 99 = .ok (.ireturn, 1) := by decide +kernel
theorem dX8_look_100 : decode cX8_look 100 = .ok (.aload_n 0, 1) := by decide +kernel
theorem dX8_look_101 : decode cX8_look 101 = .ok (.iconst 1, 1) := by decide +kernel
theorem dX8_look_102 : decode cX8_look 102 = .ok (.invokevirtual 151, 3) := by decide +kernel
theorem dX8_look_105 : decode cX8_look 105 = .ok (.ireturn, 1) := by decide +kernel
theorem dX8_look_106 : decode cX8_look 106 = .ok (.aload_n 0, 1) := by decide +kernel
theorem dX8_look_107 : decode cX8_look 107 = .ok (.iconst 3, 1) := by decide +kernel
theorem dX8_look_108 : decode cX8_look 108 = .ok (.invokevirtual 151, 3) := by decide +kernel
theorem dX8_look_111 : decode cX8_look 111 = .ok (.ireturn, 1) := by decide +kernel
theorem dX8_look_112 : decode cX8_look 112 = .ok (.aload_n 0, 1) := by decide +kernel
theorem dX8_look_113 : decode cX8_look 113 = .ok (.getfield 155, 3) := by decide +kernel
theorem dX8_look_116 : decode cX8_look 116 = .ok (.ireturn, 1) := by decide +kernel
theorem dX8_look_117 : decode cX8_look 117 = .ok (.iconst (-1), 1) := by decide +kernel
theorem dX8_look_118 : decode cX8_look 118 = .ok (.ireturn, 1) := by decide +kernel
theorem dX8_of_0 : decode cX8_of 0 = .ok (.aload_n 0, 1) := by decide +kernel
theorem dX8_of_1 : decode cX8_of 1 = .ok (.iload_n 1, 1) := by decide +kernel
theorem dX8_of_2 : decode cX8_of 2 = .ok (.invokevirtual 114, 3) := by decide +kernel
theorem dX8_of_5 : decode cX8_of 5 = .ok (.ifCond .ne 5, 3) := by decide +kernel
theorem dX8_of_8 : decode cX8_of 8 = .ok (.iconst (-1), 1) := by decide +kernel
theorem dX8_of_9 : decode cX8_of 9 = .ok (.ireturn, 1) := by decide +kernel
theorem dX8_of_10 : decode cX8_of 10 = .ok (.aload_n 0, 1) := by decide +kernel
theorem dX8_of_11 : decode cX8_of 11 = .ok (.getfield 23, 3) := by decide +kernel
theorem dX8_of_14 : decode cX8_of 14 = .ok (.iload_n 1, 1) := by decide +kernel
theorem dX8_of_15 : decode cX8_of 15 = .ok (.aaload, 1) := by decide +kernel
theorem dX8_of_16 : decode cX8_of 16 = .ok (.astore_n 3, 1) := by decide +kernel
theorem dX8_of_17 : decode cX8_of 17 = .ok (.iload_n 2, 1) := by decide +kernel
theorem dX8_of_18 : decode cX8_of 18 = .ok (.tableswitch 104 0 9 #[54, 59, 64, 69, 74, 79, 84, 89, 94, 99], 54) := by decide +kernel
theorem dX8_of_72 : decode cX8_of 72 = .ok (.aload_n 3, 1) := by decide +kernel
theorem dX8_of_73 : decode cX8_of 73 = .ok (.getfield 93, 3) := by decide +kernel
theorem dX8_of_76 : decode cX8_of 76 = .ok (.ireturn, 1) := by decide +kernel
theorem dX8_of_77 : decode cX8_of 77 = .ok (.aload_n 3, 1) := by decide +kernel
theorem dX8_of_78 : decode cX8_of 78 = .ok (.getfield 102, 3) := by decide +kernel
theorem dX8_of_81 : decode cX8_of 81 = .ok (.ireturn, 1) := by decide +kernel
theorem dX8_of_82 : decode cX8_of 82 = .ok (.aload_n 3, 1) := by decide +kernel
theorem dX8_of_83 : decode cX8_of 83 = .ok (.getfield 105, 3) := by decide +kernel
theorem dX8_of_86 : decode cX8_of 86 = .ok (.ireturn, 1) := by decide +kernel
theorem dX8_of_87 : decode cX8_of 87 = .ok (.aload_n 3, 1) := by decide +kernel
theorem dX8_of_88 : decode cX8_of 88 = .ok (.getfield 108, 3) := by decide +kernel
theorem dX8_of_91 : decode cX8_of 91 = .ok (.ireturn, 1) := by decide +kernel
theorem dX8_of_92 : decode cX8_of 92 = .ok (.aload_n 3, 1) := by decide +kernel
theorem dX8_of_93 : decode cX8_of 93 = .ok (.getfield 158, 3) := by decide +kernel
theorem dX8_of_96 : decode cX8_of 96 = .ok (.ireturn, 1) := by decide +kernel
theorem dX8_of_97 : decode cX8_of 97 = .ok (.aload_n 3, 1) := by decide +kernel
theorem dX8_of_98 : decode cX8_of 98 = .ok (.getfield 161, 3) := by decide +kernel
theorem dX8_of_101 : decode cX8_of 101 = .ok (.ireturn, 1) := by decide +kernel
theorem dX8_of_102 : decode cX8_of 102 = .ok (.aload_n 3, 1) := by decide +kernel
theorem dX8_of_103 : decode cX8_of 103 = .ok (.getfield 162, 3) := by decide +kernel
theorem dX8_of_106 : decode cX8_of 106 = .ok (.ireturn, 1) := by decide +kernel
theorem dX8_of_107 : decode cX8_of 107 = .ok (.aload_n 3, 1) := by decide +kernel
theorem dX8_of_108 : decode cX8_of 108 = .ok (.getfield 90, 3) := by decide +kernel
theorem dX8_of_111 : decode cX8_of 111 = .ok (.ireturn, 1) := by decide +kernel
theorem dX8_of_112 : decode cX8_of 112 = .ok (.aload_n 3, 1) := by decide +kernel
theorem dX8_of_113 : decode cX8_of 113 = .ok (.getfield 163, 3) := by decide +kernel
theorem dX8_of_116 : decode cX8_of 116 = .ok (.ireturn, 1) := by decide +kernel
theorem dX8_of_117 : decode cX8_of 117 = .ok (.aload_n 3, 1) := by decide +kernel
theorem dX8_of_118 : decode cX8_of 118 = .ok (.getfield 166, 3) := by decide +kernel
theorem dX8_of_121 : decode cX8_of 121 = .ok (.ireturn, 1) := by decide +kernel
theorem dX8_of_122 : decode cX8_of 122 = .ok (.iconst (-1), 1) := by decide +kernel
theorem dX8_of_123 : decode cX8_of 123 = .ok (.ireturn, 1) := by decide +kernel
theorem dX8_best_0 : decode cX8_best 0 = .ok (.aload_n 0, 1) := by decide +kernel
theorem dX8_best_1 : decode cX8_best 1 = .ok (.invokevirtual 169, 3) := by decide +kernel
theorem dX8_best_4 : decode cX8_best 4 = .ok (.aload_n 0, 1) := by decide +kernel
theorem dX8_best_5 : decode cX8_best 5 = .ok (.iload_n 1, 1) := by decide +kernel
theorem dX8_best_6 : decode cX8_best 6 = .ok (.bipush 10, 2) := by decide +kernel
theorem dX8_best_8 : decode cX8_best 8 = .ok (.isub, 1) := by decide +kernel
theorem dX8_best_9 : decode cX8_best 9 = .ok (.invokevirtual 114, 3) := by decide +kernel
theorem dX8_best_12 : decode cX8_best 12 = .ok (.ifCond .eq 16, 3) := by decide +kernel
theorem dX8_best_15 : decode cX8_best 15 = .ok (.aload_n 0, 1) := by decide +kernel
theorem dX8_best_16 : decode cX8_best 16 = .ok (.getfield 37, 3) := by decide +kernel
theorem dX8_best_19 : decode cX8_best 19 = .ok (.getfield 172, 3) := by decide +kernel
theorem dX8_best_22 : decode cX8_best 22 = .ok (.iload_n 1, 1) := by decide +kernel
theorem dX8_best_23 : decode cX8_best 23 = .ok (.bipush 10, 2) := by decide +kernel
theorem dX8_best_25 : decode cX8_best 25 = .ok (.isub, 1) := by decide +kernel
theorem dX8_best_26 : decode cX8_best 26 = .ok (.iaload, 1) := by decide +kernel
theorem dX8_best_27 : decode cX8_best 27 = .ok (.ireturn, 1) := by decide +kernel
theorem dX8_best_28 : decode cX8_best 28 = .ok (.aload_n 0, 1) := by decide +kernel
theorem dX8_best_29 : decode cX8_best 29 = .ok (.iload_n 1, 1) := by decide +kernel
theorem dX8_best_30 : decode cX8_best 30 = .ok (.bipush 20, 2) := by decide +kernel
theorem dX8_best_32 : decode cX8_best 32 = .ok (.isub, 1) := by decide +kernel
theorem dX8_best_33 : decode cX8_best 33 = .ok (.invokevirtual 114, 3) := by decide +kernel
theorem dX8_best_36 : decode cX8_best 36 = .ok (.ifCond .eq 16, 3) := by decide +kernel
theorem dX8_best_39 : decode cX8_best 39 = .ok (.aload_n 0, 1) := by decide +kernel
theorem dX8_best_40 : decode cX8_best 40 = .ok (.getfield 37, 3) := by decide +kernel
theorem dX8_best_43 : decode cX8_best 43 = .ok (.getfield 175, 3) := by decide +kernel
theorem dX8_best_46 : decode cX8_best 46 = .ok (.iload_n 1, 1) := by decide +kernel
theorem dX8_best_47 : decode cX8_best 47 = .ok (.bipush 20, 2) := by decide +kernel
theorem dX8_best_49 : decode cX8_best 49 = .ok (.isub, 1) := by decide +kernel
theorem dX8_best_50 : decode cX8_best 50 = .ok (.iaload, 1) := by decide +kernel
theorem dX8_best_51 : decode cX8_best 51 = .ok (.ireturn, 1) := by decide +kernel
theorem dX8_best_52 : decode cX8_best 52 = .ok (.iload_n 1, 1) := by decide +kernel
theorem dX8_best_53 : decode cX8_best 53 = .ok (.lookupswitch 43 #[(0, 27), (1, 35)], 27) := by decide +kernel
theorem dX8_best_80 : decode cX8_best 80 = .ok (.aload_n 0, 1) := by decide +kernel
theorem dX8_best_81 : decode cX8_best 81 = .ok (.getfield 37, 3) := by decide +kernel
theorem dX8_best_84 : decode cX8_best 84 = .ok (.getfield 178, 3) := by decide +kernel
theorem dX8_best_87 : decode cX8_best 87 = .ok (.ireturn, 1) := by decide +kernel
theorem dX8_best_88 : decode cX8_best 88 = .ok (.aload_n 0, 1) := by decide +kernel
theorem dX8_best_89 : decode cX8_best 89 = .ok (.getfield 37, 3) := by decide +kernel
theorem dX8_best_92 : decode cX8_best 92 = .ok (.getfield 181, 3) := by decide +kernel
theorem dX8_best_95 : decode cX8_best 95 = .ok (.ireturn, 1) := by decide +kernel
theorem dX8_best_96 : decode cX8_best 96 = .ok (.iconst (-1), 1) := by decide +kernel
theorem dX8_best_97 : decode cX8_best 97 = .ok (.ireturn, 1) := by decide +kernel
theorem dX8_work_0 : decode cX8_work 0 = .ok (.aload_n 0, 1) := by decide +kernel
theorem dX8_work_1 : decode cX8_work 1 = .ok (.getfield 148, 3) := by decide +kernel
theorem dX8_work_4 : decode cX8_work 4 = .ok (.bipush 51, 2) := by decide +kernel
theorem dX8_work_6 : decode cX8_work 6 = .ok (.if_icmp .lt 5, 3) := by decide +kernel
theorem dX8_work_9 : decode cX8_work 9 = .ok (.iconst (-1), 1) := by decide +kernel
theorem dX8_work_10 : decode cX8_work 10 = .ok (.ireturn, 1) := by decide +kernel
theorem dX8_work_11 : decode cX8_work 11 = .ok (.aload_n 0, 1) := by decide +kernel
theorem dX8_work_12 : decode cX8_work 12 = .ok (.invokevirtual 169, 3) := by decide +kernel
theorem dX8_work_15 : decode cX8_work 15 = .ok (.iconst 0, 1) := by decide +kernel
theorem dX8_work_16 : decode cX8_work 16 = .ok (.istore_n 1, 1) := by decide +kernel
theorem dX8_work_17 : decode cX8_work 17 = .ok (.iload_n 1, 1) := by decide +kernel
theorem dX8_work_18 : decode cX8_work 18 = .ok (.aload_n 0, 1) := by decide +kernel
theorem dX8_work_19 : decode cX8_work 19 = .ok (.getfield 87, 3) := by decide +kernel
theorem dX8_work_22 : decode cX8_work 22 = .ok (.if_icmp .ge 19, 3) := by decide +kernel
theorem dX8_work_25 : decode cX8_work 25 = .ok (.aload_n 0, 1) := by decide +kernel
theorem dX8_work_26 : decode cX8_work 26 = .ok (.aload_n 0, 1) := by decide +kernel
theorem dX8_work_27 : decode cX8_work 27 = .ok (.getfield 23, 3) := by decide +kernel
theorem dX8_work_30 : decode cX8_work 30 = .ok (.iload_n 1, 1) := by decide +kernel
theorem dX8_work_31 : decode cX8_work 31 = .ok (.aaload, 1) := by decide +kernel
theorem dX8_work_32 : decode cX8_work 32 = .ok (.invokevirtual 182, 3) := by decide +kernel
theorem dX8_work_35 : decode cX8_work 35 = .ok (.iinc 1 1, 3) := by decide +kernel
theorem dX8_work_38 : decode cX8_work 38 = .ok (.goto (-21), 3) := by decide +kernel
theorem dX8_work_41 : decode cX8_work 41 = .ok (.aload_n 0, 1) := by decide +kernel
theorem dX8_work_42 : decode cX8_work 42 = .ok (.dup, 1) := by decide +kernel
theorem dX8_work_43 : decode cX8_work 43 = .ok (.getfield 148, 3) := by decide +kernel
theorem dX8_work_46 : decode cX8_work 46 = .ok (.iconst 1, 1) := by decide +kernel
theorem dX8_work_47 : decode cX8_work 47 = .ok (.iadd, 1) := by decide +kernel
theorem dX8_work_48 : decode cX8_work 48 = .ok (.putfield 148, 3) := by decide +kernel
theorem dX8_work_51 : decode cX8_work 51 = .ok (.iconst 0, 1) := by decide +kernel
theorem dX8_work_52 : decode cX8_work 52 = .ok (.istore_n 1, 1) := by decide +kernel
theorem dX8_work_53 : decode cX8_work 53 = .ok (.iload_n 1, 1) := by decide +kernel
theorem dX8_work_54 : decode cX8_work 54 = .ok (.aload_n 0, 1) := by decide +kernel
theorem dX8_work_55 : decode cX8_work 55 = .ok (.getfield 87, 3) := by decide +kernel
theorem dX8_work_58 : decode cX8_work 58 = .ok (.if_icmp .ge 47, 3) := by decide +kernel
theorem dX8_work_61 : decode cX8_work 61 = .ok (.aload_n 0, 1) := by decide +kernel
theorem dX8_work_62 : decode cX8_work 62 = .ok (.getfield 23, 3) := by decide +kernel
theorem dX8_work_65 : decode cX8_work 65 = .ok (.iload_n 1, 1) := by decide +kernel
theorem dX8_work_66 : decode cX8_work 66 = .ok (.aaload, 1) := by decide +kernel
theorem dX8_work_67 : decode cX8_work 67 = .ok (.getfield 90, 3) := by decide +kernel
theorem dX8_work_70 : decode cX8_work 70 = .ok (.ifCond .ne 29, 3) := by decide +kernel
theorem dX8_work_73 : decode cX8_work 73 = .ok (.aload_n 0, 1) := by decide +kernel
theorem dX8_work_74 : decode cX8_work 74 = .ok (.getfield 23, 3) := by decide +kernel
theorem dX8_work_77 : decode cX8_work 77 = .ok (.iload_n 1, 1) := by decide +kernel
theorem dX8_work_78 : decode cX8_work 78 = .ok (.aaload, 1) := by decide +kernel
theorem dX8_work_79 : decode cX8_work 79 = .ok (.getfield 105, 3) := by decide +kernel
theorem dX8_work_82 : decode cX8_work 82 = .ok (.aload_n 0, 1) := by decide +kernel
theorem dX8_work_83 : decode cX8_work 83 = .ok (.getfield 148, 3) := by decide +kernel
theorem dX8_work_86 : decode cX8_work 86 = .ok (.if_icmp .ge 13, 3) := by decide +kernel
theorem dX8_work_89 : decode cX8_work 89 = .ok (.aload_n 0, 1) := by decide +kernel
theorem dX8_work_90 : decode cX8_work 90 = .ok (.getfield 23, 3) := by decide +kernel
theorem dX8_work_93 : decode cX8_work 93 = .ok (.iload_n 1, 1) := by decide +kernel
theorem dX8_work_94 : decode cX8_work 94 = .ok (.aaload, 1) := by decide +kernel
theorem dX8_work_95 : decode cX8_work 95 = .ok (.iconst 3, 1) := by decide +kernel
theorem dX8_work_96 : decode cX8_work 96 = .ok (.putfield 90, 3) := by decide +kernel
theorem dX8_work_99 : decode cX8_work 99 = .ok (.iinc 1 1, 3) := by decide +kernel
theorem dX8_work_102 : decode cX8_work 102 = .ok (.goto (-49), 3) := by decide +kernel
theorem dX8_work_105 : decode cX8_work 105 = .ok (.aload_n 0, 1) := by decide +kernel
theorem dX8_work_106 : decode cX8_work 106 = .ok (.iconst 0, 1) := by decide +kernel
theorem dX8_work_107 : decode cX8_work 107 = .ok (.putfield 71, 3) := by decide +kernel
theorem dX8_work_110 : decode cX8_work 110 = .ok (.aload_n 0, 1) := by decide +kernel
theorem dX8_work_111 : decode cX8_work 111 = .ok (.getfield 148, 3) := by decide +kernel
theorem dX8_work_114 : decode cX8_work 114 = .ok (.ireturn, 1) := by decide +kernel
theorem dX8_workAsPlanned_0 : decode cX8_workAsPlanned 0 = .ok (.aload_n 0, 1) := by decide +kernel
theorem dX8_workAsPlanned_1 : decode cX8_workAsPlanned 1 = .ok (.getfield 37, 3) := by decide +kernel
theorem dX8_workAsPlanned_4 : decode cX8_workAsPlanned 4 = .ok (.getfield 172, 3) := by decide +kernel
theorem dX8_workAsPlanned_7 : decode cX8_workAsPlanned 7 = .ok (.aload_n 1, 1) := by decide +kernel
theorem dX8_workAsPlanned_8 : decode cX8_workAsPlanned 8 = .ok (.getfield 111, 3) := by decide +kernel
theorem dX8_workAsPlanned_11 : decode cX8_workAsPlanned 11 = .ok (.iaload, 1) := by decide +kernel
theorem dX8_workAsPlanned_12 : decode cX8_workAsPlanned 12 = .ok (.istore_n 2, 1) := by decide +kernel
theorem dX8_workAsPlanned_13 : decode cX8_workAsPlanned 13 = .ok (.aload_n 0, 1) := by decide +kernel
theorem dX8_workAsPlanned_14 : decode cX8_workAsPlanned 14 = .ok (.getfield 37, 3) := by decide +kernel
theorem dX8_workAsPlanned_17 : decode cX8_workAsPlanned 17 = .ok (.getfield 186, 3) := by decide +kernel
theorem dX8_workAsPlanned_20 : decode cX8_workAsPlanned 20 = .ok (.aload_n 1, 1) := by decide +kernel
theorem dX8_workAsPlanned_21 : decode cX8_workAsPlanned 21 = .ok (.getfield 111, 3) := by decide +kernel
theorem dX8_workAsPlanned_24 : decode cX8_workAsPlanned 24 = .ok (.iaload, 1) := by decide +kernel
theorem dX8_workAsPlanned_25 : decode cX8_workAsPlanned 25 = .ok (.istore_n 3, 1) := by decide +kernel
theorem dX8_workAsPlanned_26 : decode cX8_workAsPlanned 26 = .ok (.iload_n 2, 1) := by decide +kernel
theorem dX8_workAsPlanned_27 : decode cX8_workAsPlanned 27 = .ok (.invokestatic 56, 3) := by decide +kernel
theorem dX8_workAsPlanned_30 : decode cX8_workAsPlanned 30 = .ok (.ifCond .eq 7, 3) := by decide +kernel
theorem dX8_workAsPlanned_33 : decode cX8_workAsPlanned 33 = .ok (.iload_n 3, 1) := by decide +kernel
theorem dX8_workAsPlanned_34 : decode cX8_workAsPlanned 34 = .ok (.ifCond .ne 4, 3) := by decide +kernel
theorem dX8_workAsPlanned_37 : decode cX8_workAsPlanned 37 = .ok (.return_, 1) := by decide +kernel
theorem dX8_workAsPlanned_38 : decode cX8_workAsPlanned 38 = .ok (.aload_n 1, 1) := by decide +kernel
theorem dX8_workAsPlanned_39 : decode cX8_workAsPlanned 39 = .ok (.iload_n 2, 1) := by decide +kernel
theorem dX8_workAsPlanned_40 : decode cX8_workAsPlanned 40 = .ok (.iload_n 3, 1) := by decide +kernel
theorem dX8_workAsPlanned_41 : decode cX8_workAsPlanned 41 = .ok (.invokevirtual 189, 3) := by decide +kernel
theorem dX8_workAsPlanned_44 : decode cX8_workAsPlanned 44 = .ok (.aload_n 1, 1) := by decide +kernel
theorem dX8_workAsPlanned_45 : decode cX8_workAsPlanned 45 = .ok (.getfield 163, 3) := by decide +kernel
theorem dX8_workAsPlanned_48 : decode cX8_workAsPlanned 48 = .ok (.aload_n 1, 1) := by decide +kernel
theorem dX8_workAsPlanned_49 : decode cX8_workAsPlanned 49 = .ok (.getfield 161, 3) := by decide +kernel
theorem dX8_workAsPlanned_52 : decode cX8_workAsPlanned 52 = .ok (.if_icmp .lt 57, 3) := by decide +kernel
theorem dX8_workAsPlanned_55 : decode cX8_workAsPlanned 55 = .ok (.aload_n 1, 1) := by decide +kernel
theorem dX8_workAsPlanned_56 : decode cX8_workAsPlanned 56 = .ok (.iconst 1, 1) := by decide +kernel
theorem dX8_workAsPlanned_57 : decode cX8_workAsPlanned 57 = .ok (.putfield 90, 3) := by decide +kernel
theorem dX8_workAsPlanned_60 : decode cX8_workAsPlanned 60 = .ok (.aload_n 0, 1) := by decide +kernel
theorem dX8_workAsPlanned_61 : decode cX8_workAsPlanned 61 = .ok (.getfield 11, 3) := by decide +kernel
theorem dX8_workAsPlanned_64 : decode cX8_workAsPlanned 64 = .ok (.iload_n 2, 1) := by decide +kernel
theorem dX8_workAsPlanned_65 : decode cX8_workAsPlanned 65 = .ok (.aaload, 1) := by decide +kernel
theorem dX8_workAsPlanned_66 : decode cX8_workAsPlanned 66 = .ok (.dup, 1) := by decide +kernel
theorem dX8_workAsPlanned_67 : decode cX8_workAsPlanned 67 = .ok (.getfield 100, 3) := by decide +kernel
theorem dX8_workAsPlanned_70 : decode cX8_workAsPlanned 70 = .ok (.aload_n 1, 1) := by decide +kernel
theorem dX8_workAsPlanned_71 : decode cX8_workAsPlanned 71 = .ok (.getfield 162, 3) := by decide +kernel
theorem dX8_workAsPlanned_74 : decode cX8_workAsPlanned 74 = .ok (.isub, 1) := by decide +kernel
theorem dX8_workAsPlanned_75 : decode cX8_workAsPlanned 75 = .ok (.putfield 100, 3) := by decide +kernel
theorem dX8_workAsPlanned_78 : decode cX8_workAsPlanned 78 = .ok (.aload_n 0, 1) := by decide +kernel
theorem dX8_workAsPlanned_79 : decode cX8_workAsPlanned 79 = .ok (.getfield 11, 3) := by decide +kernel
theorem dX8_workAsPlanned_82 : decode cX8_workAsPlanned 82 = .ok (.iload_n 2, 1) := by decide +kernel
theorem dX8_workAsPlanned_83 : decode cX8_workAsPlanned 83 = .ok (.aaload, 1) := by decide +kernel
theorem dX8_workAsPlanned_84 : decode cX8_workAsPlanned 84 = .ok (.dup, 1) := by decide +kernel
theorem dX8_workAsPlanned_85 : decode cX8_workAsPlanned 85 = .ok (.getfield 145, 3) := by decide +kernel
theorem dX8_workAsPlanned_88 : decode cX8_workAsPlanned 88 = .ok (.aload_n 1, 1) := by decide +kernel
theorem dX8_workAsPlanned_89 : decode cX8_workAsPlanned 89 = .ok (.getfield 162, 3) := by decide +kernel
theorem dX8_workAsPlanned_92 : decode cX8_workAsPlanned 92 = .ok (.iadd, 1) := by decide +kernel
theorem dX8_workAsPlanned_93 : decode cX8_workAsPlanned 93 = .ok (.putfield 145, 3) := by decide +kernel
theorem dX8_workAsPlanned_96 : decode cX8_workAsPlanned 96 = .ok (.aload_n 0, 1) := by decide +kernel
theorem dX8_workAsPlanned_97 : decode cX8_workAsPlanned 97 = .ok (.dup, 1) := by decide +kernel
theorem dX8_workAsPlanned_98 : decode cX8_workAsPlanned 98 = .ok (.getfield 155, 3) := by decide +kernel
theorem dX8_workAsPlanned_101 : decode cX8_workAsPlanned 101 = .ok (.aload_n 1, 1) := by decide +kernel
theorem dX8_workAsPlanned_102 : decode cX8_workAsPlanned 102 = .ok (.getfield 108, 3) := by decide +kernel
theorem dX8_workAsPlanned_105 : decode cX8_workAsPlanned 105 = .ok (.iadd, 1) := by decide +kernel
theorem dX8_workAsPlanned_106 : decode cX8_workAsPlanned 106 = .ok (.putfield 155, 3) := by decide +kernel
theorem dX8_workAsPlanned_109 : decode cX8_workAsPlanned 109 = .ok (.return_, 1) := by decide +kernel
theorem dX8_bringPlanUpToDate_0 : decode cX8_bringPlanUpToDate 0 = .ok (.aload_n 0, 1) := by decide +kernel
theorem dX8_bringPlanUpToDate_1 : decode cX8_bringPlanUpToDate 1 = .ok (.getfield 71, 3) := by decide +kernel
theorem dX8_bringPlanUpToDate_4 : decode cX8_bringPlanUpToDate 4 = .ok (.ifCond .ne 35, 3) := by decide +kernel
theorem dX8_bringPlanUpToDate_7 : decode cX8_bringPlanUpToDate 7 = .ok (.aload_n 0, 1) := by decide +kernel
theorem dX8_bringPlanUpToDate_8 : decode cX8_bringPlanUpToDate 8 = .ok (.getfield 37, 3) := by decide +kernel
theorem dX8_bringPlanUpToDate_11 : decode cX8_bringPlanUpToDate 11 = .ok (.aload_n 0, 1) := by decide +kernel
theorem dX8_bringPlanUpToDate_12 : decode cX8_bringPlanUpToDate 12 = .ok (.getfield 11, 3) := by decide +kernel
theorem dX8_bringPlanUpToDate_15 : decode cX8_bringPlanUpToDate 15 = .ok (.aload_n 0, 1) := by decide +kernel
theorem dX8_bringPlanUpToDate_16 : decode cX8_bringPlanUpToDate 16 = .ok (.getfield 23, 3) := by decide +kernel
theorem dX8_bringPlanUpToDate_19 : decode cX8_bringPlanUpToDate 19 = .ok (.aload_n 0, 1) := by decide +kernel
theorem dX8_bringPlanUpToDate_20 : decode cX8_bringPlanUpToDate 20 = .ok (.getfield 87, 3) := by decide +kernel
theorem dX8_bringPlanUpToDate_23 : decode cX8_bringPlanUpToDate 23 = .ok (.aload_n 0, 1) := by decide +kernel
theorem dX8_bringPlanUpToDate_24 : decode cX8_bringPlanUpToDate 24 = .ok (.getfield 44, 3) := by decide +kernel
theorem dX8_bringPlanUpToDate_27 : decode cX8_bringPlanUpToDate 27 = .ok (.aload_n 0, 1) := by decide +kernel
theorem dX8_bringPlanUpToDate_28 : decode cX8_bringPlanUpToDate 28 = .ok (.getfield 148, 3) := by decide +kernel
theorem dX8_bringPlanUpToDate_31 : decode cX8_bringPlanUpToDate 31 = .ok (.invokevirtual 193, 3) := by decide +kernel
theorem dX8_bringPlanUpToDate_34 : decode cX8_bringPlanUpToDate 34 = .ok (.aload_n 0, 1) := by decide +kernel
theorem dX8_bringPlanUpToDate_35 : decode cX8_bringPlanUpToDate 35 = .ok (.iconst 1, 1) := by decide +kernel
theorem dX8_bringPlanUpToDate_36 : decode cX8_bringPlanUpToDate 36 = .ok (.putfield 71, 3) := by decide +kernel
theorem dX8_bringPlanUpToDate_39 : decode cX8_bringPlanUpToDate 39 = .ok (.return_, 1) := by decide +kernel
theorem dX8_countOrders_0 : decode cX8_countOrders 0 = .ok (.iconst 0, 1) := by decide +kernel
theorem dX8_countOrders_1 : decode cX8_countOrders 1 = .ok (.istore_n 2, 1) := by decide +kernel
theorem dX8_countOrders_2 : decode cX8_countOrders 2 = .ok (.iconst 0, 1) := by decide +kernel
theorem dX8_countOrders_3 : decode cX8_countOrders 3 = .ok (.istore_n 3, 1) := by decide +kernel
theorem dX8_countOrders_4 : decode cX8_countOrders 4 = .ok (.iload_n 3, 1) := by decide +kernel
theorem dX8_countOrders_5 : decode cX8_countOrders 5 = .ok (.aload_n 0, 1) := by decide +kernel
theorem dX8_countOrders_6 : decode cX8_countOrders 6 = .ok (.getfield 87, 3) := by decide +kernel
theorem dX8_countOrders_9 : decode cX8_countOrders 9 = .ok (.if_icmp .ge 25, 3) := by decide +kernel
theorem dX8_countOrders_12 : decode cX8_countOrders 12 = .ok (.aload_n 0, 1) := by decide +kernel
theorem dX8_countOrders_13 : decode cX8_countOrders 13 = .ok (.getfield 23, 3) := by decide +kernel
theorem dX8_countOrders_16 : decode cX8_countOrders 16 = .ok (.iload_n 3, 1) := by decide +kernel
theorem dX8_countOrders_17 : decode cX8_countOrders 17 = .ok (.aaload, 1) := by decide +kernel
theorem dX8_countOrders_18 : decode cX8_countOrders 18 = .ok (.getfield 90, 3) := by decide +kernel
theorem dX8_countOrders_21 : decode cX8_countOrders 21 = .ok (.iload_n 1, 1) := by decide +kernel
theorem dX8_countOrders_22 : decode cX8_countOrders 22 = .ok (.if_icmp .ne 6, 3) := by decide +kernel
theorem dX8_countOrders_25 : decode cX8_countOrders 25 = .ok (.iinc 2 1, 3) := by decide +kernel
theorem dX8_countOrders_28 : decode cX8_countOrders 28 = .ok (.iinc 3 1, 3) := by decide +kernel
theorem dX8_countOrders_31 : decode cX8_countOrders 31 = .ok (.goto (-27), 3) := by decide +kernel
theorem dX8_countOrders_34 : decode cX8_countOrders 34 = .ok (.iload_n 2, 1) := by decide +kernel
theorem dX8_countOrders_35 : decode cX8_countOrders 35 = .ok (.ireturn, 1) := by decide +kernel
theorem dX8_isOrder_0 : decode cX8_isOrder 0 = .ok (.iload_n 1, 1) := by decide +kernel
theorem dX8_isOrder_1 : decode cX8_isOrder 1 = .ok (.ifCond .lt 15, 3) := by decide +kernel
theorem dX8_isOrder_4 : decode cX8_isOrder 4 = .ok (.iload_n 1, 1) := by decide +kernel
theorem dX8_isOrder_5 : decode cX8_isOrder 5 = .ok (.aload_n 0, 1) := by decide +kernel
theorem dX8_isOrder_6 : decode cX8_isOrder 6 = .ok (.getfield 87, 3) := by decide +kernel
theorem dX8_isOrder_9 : decode cX8_isOrder 9 = .ok (.if_icmp .ge 7, 3) := by decide +kernel
theorem dX8_isOrder_12 : decode cX8_isOrder 12 = .ok (.iconst 1, 1) := by decide +kernel
theorem dX8_isOrder_13 : decode cX8_isOrder 13 = .ok (.goto 4, 3) := by decide +kernel
theorem dX8_isOrder_16 : decode cX8_isOrder 16 = .ok (.iconst 0, 1) := by decide +kernel
theorem dX8_isOrder_17 : decode cX8_isOrder 17 = .ok (.ireturn, 1) := by decide +kernel
theorem dX8_isWeekToCome_0 : decode cX8_isWeekToCome 0 = .ok (.iload_n 1, 1) := by decide +kernel
theorem dX8_isWeekToCome_1 : decode cX8_isWeekToCome 1 = .ok (.aload_n 0, 1) := by decide +kernel
theorem dX8_isWeekToCome_2 : decode cX8_isWeekToCome 2 = .ok (.getfield 148, 3) := by decide +kernel
theorem dX8_isWeekToCome_5 : decode cX8_isWeekToCome 5 = .ok (.bipush 51, 2) := by decide +kernel
theorem dX8_isWeekToCome_7 : decode cX8_isWeekToCome 7 = .ok (.invokestatic 63, 3) := by decide +kernel
theorem dX8_isWeekToCome_10 : decode cX8_isWeekToCome 10 = .ok (.ireturn, 1) := by decide +kernel
theorem dX8_isFamily_0 : decode cX8_isFamily 0 = .ok (.iload_n 0, 1) := by decide +kernel
theorem dX8_isFamily_1 : decode cX8_isFamily 1 = .ok (.ifCond .lt 12, 3) := by decide +kernel
theorem dX8_isFamily_4 : decode cX8_isFamily 4 = .ok (.iload_n 0, 1) := by decide +kernel
theorem dX8_isFamily_5 : decode cX8_isFamily 5 = .ok (.iconst 4, 1) := by decide +kernel
theorem dX8_isFamily_6 : decode cX8_isFamily 6 = .ok (.if_icmp .ge 7, 3) := by decide +kernel
theorem dX8_isFamily_9 : decode cX8_isFamily 9 = .ok (.iconst 1, 1) := by decide +kernel
theorem dX8_isFamily_10 : decode cX8_isFamily 10 = .ok (.goto 4, 3) := by decide +kernel
theorem dX8_isFamily_13 : decode cX8_isFamily 13 = .ok (.iconst 0, 1) := by decide +kernel
theorem dX8_isFamily_14 : decode cX8_isFamily 14 = .ok (.ireturn, 1) := by decide +kernel
theorem dX8_isPattern_0 : decode cX8_isPattern 0 = .ok (.iload_n 0, 1) := by decide +kernel
theorem dX8_isPattern_1 : decode cX8_isPattern 1 = .ok (.ifCond .lt 13, 3) := by decide +kernel
theorem dX8_isPattern_4 : decode cX8_isPattern 4 = .ok (.iload_n 0, 1) := by decide +kernel
theorem dX8_isPattern_5 : decode cX8_isPattern 5 = .ok (.bipush 6, 2) := by decide +kernel
theorem dX8_isPattern_7 : decode cX8_isPattern 7 = .ok (.if_icmp .ge 7, 3) := by decide +kernel
theorem dX8_isPattern_10 : decode cX8_isPattern 10 = .ok (.iconst 1, 1) := by decide +kernel
theorem dX8_isPattern_11 : decode cX8_isPattern 11 = .ok (.goto 4, 3) := by decide +kernel
theorem dX8_isPattern_14 : decode cX8_isPattern 14 = .ok (.iconst 0, 1) := by decide +kernel
theorem dX8_isPattern_15 : decode cX8_isPattern 15 = .ok (.ireturn, 1) := by decide +kernel
theorem dX8_isWithin_0 : decode cX8_isWithin 0 = .ok (.iload_n 0, 1) := by decide +kernel
theorem dX8_isWithin_1 : decode cX8_isWithin 1 = .ok (.iload_n 1, 1) := by decide +kernel
theorem dX8_isWithin_2 : decode cX8_isWithin 2 = .ok (.if_icmp .lt 12, 3) := by decide +kernel
theorem dX8_isWithin_5 : decode cX8_isWithin 5 = .ok (.iload_n 0, 1) := by decide +kernel
theorem dX8_isWithin_6 : decode cX8_isWithin 6 = .ok (.iload_n 2, 1) := by decide +kernel
theorem dX8_isWithin_7 : decode cX8_isWithin 7 = .ok (.if_icmp .gt 7, 3) := by decide +kernel
theorem dX8_isWithin_10 : decode cX8_isWithin 10 = .ok (.iconst 1, 1) := by decide +kernel
theorem dX8_isWithin_11 : decode cX8_isWithin 11 = .ok (.goto 4, 3) := by decide +kernel
theorem dX8_isWithin_14 : decode cX8_isWithin 14 = .ok (.iconst 0, 1) := by decide +kernel
theorem dX8_isWithin_15 : decode cX8_isWithin 15 = .ok (.ireturn, 1) := by decide +kernel
theorem dL_law_0 : decode cL_law 0 = .ok (.new 7, 3) := by decide +kernel
theorem dL_law_3 : decode cL_law 3 = .ok (.dup, 1) := by decide +kernel
theorem dL_law_4 : decode cL_law 4 = .ok (.invokespecial 9, 3) := by decide +kernel
theorem dL_law_7 : decode cL_law 7 = .ok (.astore_n 1, 1) := by decide +kernel
theorem dL_law_8 : decode cL_law 8 = .ok (.new 10, 3) := by decide +kernel
theorem dL_law_11 : decode cL_law 11 = .ok (.dup, 1) := by decide +kernel
theorem dL_law_12 : decode cL_law 12 = .ok (.invokespecial 12, 3) := by decide +kernel
theorem dL_law_15 : decode cL_law 15 = .ok (.astore_n 2, 1) := by decide +kernel
theorem dL_law_16 : decode cL_law 16 = .ok (.iconst 0, 1) := by decide +kernel
theorem dL_law_17 : decode cL_law 17 = .ok (.istore_n 3, 1) := by decide +kernel
theorem dL_law_18 : decode cL_law 18 = .ok (.iload_n 3, 1) := by decide +kernel
theorem dL_law_19 : decode cL_law 19 = .ok (.aload_n 0, 1) := by decide +kernel
theorem dL_law_20 : decode cL_law 20 = .ok (.arraylength, 1) := by decide +kernel
theorem dL_law_21 : decode cL_law 21 = .ok (.bipush 6, 2) := by decide +kernel
theorem dL_law_23 : decode cL_law 23 = .ok (.isub, 1) := by decide +kernel
theorem dL_law_24 : decode cL_law 24 = .ok (.if_icmp .gt 575, 3) := by decide +kernel
theorem dL_law_27 : decode cL_law 27 = .ok (.aload_n 0, 1) := by decide +kernel
theorem dL_law_28 : decode cL_law 28 = .ok (.iload_n 3, 1) := by decide +kernel
theorem dL_law_29 : decode cL_law 29 = .ok (.iaload, 1) := by decide +kernel
theorem dL_law_30 : decode cL_law 30 = .ok (.bipush 15, 2) := by decide +kernel
theorem dL_law_32 : decode cL_law 32 = .ok (.iand, 1) := by decide +kernel
theorem dL_law_33 : decode cL_law 33 = .ok (.tableswitch 560 0 14 #[75, 118, 171, 204, 227, 280, 303, 366, 389, 402, 425, 468, 491, 524, 547], 75) := by decide +kernel
theorem dL_law_108 : decode cL_law 108 = .ok (.aload_n 1, 1) := by decide +kernel
theorem dL_law_109 : decode cL_law 109 = .ok (.aload_n 0, 1) := by decide +kernel
theorem dL_law_110 : decode cL_law 110 = .ok (.iload_n 3, 1) := by decide +kernel
theorem dL_law_111 : decode cL_law 111 = .ok (.iconst 1, 1) := by decide +kernel
theorem dL_law_112 : decode cL_law 112 = .ok (.iadd, 1) := by decide +kernel
theorem dL_law_113 : decode cL_law 113 = .ok (.iaload, 1) := by decide +kernel
theorem dL_law_114 : decode cL_law 114 = .ok (.aload_n 0, 1) := by decide +kernel
theorem dL_law_115 : decode cL_law 115 = .ok (.iload_n 3, 1) := by decide +kernel
theorem dL_law_116 : decode cL_law 116 = .ok (.iconst 2, 1) := by decide +kernel
theorem dL_law_117 : decode cL_law 117 = .ok (.iadd, 1) := by decide +kernel
theorem dL_law_118 : decode cL_law 118 = .ok (.iaload, 1) := by decide +kernel
theorem dL_law_119 : decode cL_law 119 = .ok (.aload_n 0, 1) := by decide +kernel
theorem dL_law_120 : decode cL_law 120 = .ok (.iload_n 3, 1) := by decide +kernel
theorem dL_law_121 : decode cL_law 121 = .ok (.iconst 3, 1) := by decide +kernel
theorem dL_law_122 : decode cL_law 122 = .ok (.iadd, 1) := by decide +kernel
theorem dL_law_123 : decode cL_law 123 = .ok (.iaload, 1) := by decide +kernel
theorem dL_law_124 : decode cL_law 124 = .ok (.invokevirtual 13, 3) := by decide +kernel
theorem dL_law_127 : decode cL_law 127 = .ok (.aload_n 2, 1) := by decide +kernel
theorem dL_law_128 : decode cL_law 128 = .ok (.aload_n 0, 1) := by decide +kernel
theorem dL_law_129 : decode cL_law 129 = .ok (.iload_n 3, 1) := by decide +kernel
theorem dL_law_130 : decode cL_law 130 = .ok (.iconst 1, 1) := by decide +kernel
theorem dL_law_131 : decode cL_law 131 = .ok (.iadd, 1) := by decide +kernel
theorem dL_law_132 : decode cL_law 132 = .ok (.iaload, 1) := by decide +kernel
theorem dL_law_133 : decode cL_law 133 = .ok (.aload_n 0, 1) := by decide +kernel
theorem dL_law_134 : decode cL_law 134 = .ok (.iload_n 3, 1) := by decide +kernel
theorem dL_law_135 : decode cL_law 135 = .ok (.iconst 2, 1) := by decide +kernel
theorem dL_law_136 : decode cL_law 136 = .ok (.iadd, 1) := by decide +kernel
theorem dL_law_137 : decode cL_law 137 = .ok (.iaload, 1) := by decide +kernel
theorem dL_law_138 : decode cL_law 138 = .ok (.aload_n 0, 1) := by decide +kernel
theorem dL_law_139 : decode cL_law 139 = .ok (.iload_n 3, 1) := by decide +kernel
theorem dL_law_140 : decode cL_law 140 = .ok (.iconst 3, 1) := by decide +kernel
theorem dL_law_141 : decode cL_law 141 = .ok (.iadd, 1) := by decide +kernel
theorem dL_law_142 : decode cL_law 142 = .ok (.iaload, 1) := by decide +kernel
theorem dL_law_143 : decode cL_law 143 = .ok (.invokevirtual 17, 3) := by decide +kernel
theorem dL_law_146 : decode cL_law 146 = .ok (.if_icmp .eq 447, 3) := by decide +kernel
theorem dL_law_149 : decode cL_law 149 = .ok (.iconst 0, 1) := by decide +kernel
theorem dL_law_150 : decode cL_law 150 = .ok (.ireturn, 1) := by decide +kernel
theorem dL_law_151 : decode cL_law 151 = .ok (.aload_n 1, 1) := by decide +kernel
theorem dL_law_152 : decode cL_law 152 = .ok (.aload_n 0, 1) := by decide +kernel
theorem dL_law_153 : decode cL_law 153 = .ok (.iload_n 3, 1) := by decide +kernel
theorem dL_law_154 : decode cL_law 154 = .ok (.iconst 1, 1) := by decide +kernel
theorem dL_law_155 : decode cL_law 155 = .ok (.iadd, 1) := by decide +kernel
theorem dL_law_156 : decode cL_law 156 = .ok (.iaload, 1) := by decide +kernel
theorem dL_law_157 : decode cL_law 157 = .ok (.aload_n 0, 1) := by decide +kernel
theorem dL_law_158 : decode cL_law 158 = .ok (.iload_n 3, 1) := by decide +kernel
theorem dL_law_159 : decode cL_law 159 = .ok (.iconst 2, 1) := by decide +kernel
theorem dL_law_160 : decode cL_law 160 = .ok (.iadd, 1) := by decide +kernel
theorem dL_law_161 : decode cL_law 161 = .ok (.iaload, 1) := by decide +kernel
theorem dL_law_162 : decode cL_law 162 = .ok (.aload_n 0, 1) := by decide +kernel
theorem dL_law_163 : decode cL_law 163 = .ok (.iload_n 3, 1) := by decide +kernel
theorem dL_law_164 : decode cL_law 164 = .ok (.iconst 3, 1) := by decide +kernel
theorem dL_law_165 : decode cL_law 165 = .ok (.iadd, 1) := by decide +kernel
theorem dL_law_166 : decode cL_law 166 = .ok (.iaload, 1) := by decide +kernel
theorem dL_law_167 : decode cL_law 167 = .ok (.aload_n 0, 1) := by decide +kernel
theorem dL_law_168 : decode cL_law 168 = .ok (.iload_n 3, 1) := by decide +kernel
theorem dL_law_169 : decode cL_law 169 = .ok (.iconst 4, 1) := by decide +kernel
theorem dL_law_170 : decode cL_law 170 = .ok (.iadd, 1) := by decide +kernel
theorem dL_law_171 : decode cL_law 171 = .ok (.iaload, 1) := by decide +kernel
theorem dL_law_172 : decode cL_law 172 = .ok (.invokevirtual 18, 3) := by decide +kernel
theorem dL_law_175 : decode cL_law 175 = .ok (.aload_n 2, 1) := by decide +kernel
theorem dL_law_176 : decode cL_law 176 = .ok (.aload_n 0, 1) := by decide +kernel
theorem dL_law_177 : decode cL_law 177 = .ok (.iload_n 3, 1) := by decide +kernel
theorem dL_law_178 : decode cL_law 178 = .ok (.iconst 1, 1) := by decide +kernel
theorem dL_law_179 : decode cL_law 179 = .ok (.iadd, 1) := by decide +kernel
theorem dL_law_180 : decode cL_law 180 = .ok (.iaload, 1) := by decide +kernel
theorem dL_law_181 : decode cL_law 181 = .ok (.aload_n 0, 1) := by decide +kernel
theorem dL_law_182 : decode cL_law 182 = .ok (.iload_n 3, 1) := by decide +kernel
theorem dL_law_183 : decode cL_law 183 = .ok (.iconst 2, 1) := by decide +kernel
theorem dL_law_184 : decode cL_law 184 = .ok (.iadd, 1) := by decide +kernel
theorem dL_law_185 : decode cL_law 185 = .ok (.iaload, 1) := by decide +kernel
theorem dL_law_186 : decode cL_law 186 = .ok (.aload_n 0, 1) := by decide +kernel
theorem dL_law_187 : decode cL_law 187 = .ok (.iload_n 3, 1) := by decide +kernel
theorem dL_law_188 : decode cL_law 188 = .ok (.iconst 3, 1) := by decide +kernel
theorem dL_law_189 : decode cL_law 189 = .ok (.iadd, 1) := by decide +kernel
theorem dL_law_190 : decode cL_law 190 = .ok (.iaload, 1) := by decide +kernel
theorem dL_law_191 : decode cL_law 191 = .ok (.aload_n 0, 1) := by decide +kernel
theorem dL_law_192 : decode cL_law 192 = .ok (.iload_n 3, 1) := by decide +kernel
theorem dL_law_193 : decode cL_law 193 = .ok (.iconst 4, 1) := by decide +kernel
theorem dL_law_194 : decode cL_law 194 = .ok (.iadd, 1) := by decide +kernel
theorem dL_law_195 : decode cL_law 195 = .ok (.iaload, 1) := by decide +kernel
theorem dL_law_196 : decode cL_law 196 = .ok (.invokevirtual 22, 3) := by decide +kernel
theorem dL_law_199 : decode cL_law 199 = .ok (.if_icmp .eq 394, 3) := by decide +kernel
theorem dL_law_202 : decode cL_law 202 = .ok (.iconst 0, 1) := by decide +kernel
theorem dL_law_203 : decode cL_law 203 = .ok (.ireturn, 1) := by decide +kernel
theorem dL_law_204 : decode cL_law 204 = .ok (.aload_n 1, 1) := by decide +kernel
theorem dL_law_205 : decode cL_law 205 = .ok (.aload_n 0, 1) := by decide +kernel
theorem dL_law_206 : decode cL_law 206 = .ok (.iload_n 3, 1) := by decide +kernel
theorem dL_law_207 : decode cL_law 207 = .ok (.iconst 1, 1) := by decide +kernel
theorem dL_law_208 : decode cL_law 208 = .ok (.iadd, 1) := by decide +kernel
theorem dL_law_209 : decode cL_law 209 = .ok (.iaload, 1) := by decide +kernel
theorem dL_law_210 : decode cL_law 210 = .ok (.aload_n 0, 1) := by decide +kernel
theorem dL_law_211 : decode cL_law 211 = .ok (.iload_n 3, 1) := by decide +kernel
theorem dL_law_212 : decode cL_law 212 = .ok (.iconst 2, 1) := by decide +kernel
theorem dL_law_213 : decode cL_law 213 = .ok (.iadd, 1) := by decide +kernel
theorem dL_law_214 : decode cL_law 214 = .ok (.iaload, 1) := by decide +kernel
theorem dL_law_215 : decode cL_law 215 = .ok (.invokevirtual 23, 3) := by decide +kernel
theorem dL_law_218 : decode cL_law 218 = .ok (.aload_n 2, 1) := by decide +kernel
theorem dL_law_219 : decode cL_law 219 = .ok (.aload_n 0, 1) := by decide +kernel
theorem dL_law_220 : decode cL_law 220 = .ok (.iload_n 3, 1) := by decide +kernel
theorem dL_law_221 : decode cL_law 221 = .ok (.iconst 1, 1) := by decide +kernel
theorem dL_law_222 : decode cL_law 222 = .ok (.iadd, 1) := by decide +kernel
theorem dL_law_223 : decode cL_law 223 = .ok (.iaload, 1) := by decide +kernel
theorem dL_law_224 : decode cL_law 224 = .ok (.aload_n 0, 1) := by decide +kernel
theorem dL_law_225 : decode cL_law 225 = .ok (.iload_n 3, 1) := by decide +kernel
theorem dL_law_226 : decode cL_law 226 = .ok (.iconst 2, 1) := by decide +kernel
theorem dL_law_227 : decode cL_law 227 = .ok (.iadd, 1) := by decide +kernel
theorem dL_law_228 : decode cL_law 228 = .ok (.iaload, 1) := by decide +kernel
theorem dL_law_229 : decode cL_law 229 = .ok (.invokevirtual 27, 3) := by decide +kernel
theorem dL_law_232 : decode cL_law 232 = .ok (.if_icmp .eq 361, 3) := by decide +kernel
theorem dL_law_235 : decode cL_law 235 = .ok (.iconst 0, 1) := by decide +kernel
theorem dL_law_236 : decode cL_law 236 = .ok (.ireturn, 1) := by decide +kernel
theorem dL_law_237 : decode cL_law 237 = .ok (.aload_n 1, 1) := by decide +kernel
theorem dL_law_238 : decode cL_law 238 = .ok (.aload_n 0, 1) := by decide +kernel
theorem dL_law_239 : decode cL_law 239 = .ok (.iload_n 3, 1) := by decide +kernel
theorem dL_law_240 : decode cL_law 240 = .ok (.iconst 1, 1) := by decide +kernel
theorem dL_law_241 : decode cL_law 241 = .ok (.iadd, 1) := by decide +kernel
theorem dL_law_242 : decode cL_law 242 = .ok (.iaload, 1) := by decide +kernel
theorem dL_law_243 : decode cL_law 243 = .ok (.invokevirtual 28, 3) := by decide +kernel
theorem dL_law_246 : decode cL_law 246 = .ok (.aload_n 2, 1) := by decide +kernel
theorem dL_law_247 : decode cL_law 247 = .ok (.aload_n 0, 1) := by decide +kernel
theorem dL_law_248 : decode cL_law 248 = .ok (.iload_n 3, 1) := by decide +kernel
theorem dL_law_249 : decode cL_law 249 = .ok (.iconst 1, 1) := by decide +kernel
theorem dL_law_250 : decode cL_law 250 = .ok (.iadd, 1) := by decide +kernel
theorem dL_law_251 : decode cL_law 251 = .ok (.iaload, 1) := by decide +kernel
theorem dL_law_252 : decode cL_law 252 = .ok (.invokevirtual 32, 3) := by decide +kernel
theorem dL_law_255 : decode cL_law 255 = .ok (.if_icmp .eq 338, 3) := by decide +kernel
theorem dL_law_258 : decode cL_law 258 = .ok (.iconst 0, 1) := by decide +kernel
theorem dL_law_259 : decode cL_law 259 = .ok (.ireturn, 1) := by decide +kernel
theorem dL_law_260 : decode cL_law 260 = .ok (.aload_n 1, 1) := by decide +kernel
theorem dL_law_261 : decode cL_law 261 = .ok (.aload_n 0, 1) := by decide +kernel
theorem dL_law_262 : decode cL_law 262 = .ok (.iload_n 3, 1) := by decide +kernel
theorem dL_law_263 : decode cL_law 263 = .ok (.iconst 1, 1) := by decide +kernel
theorem dL_law_264 : decode cL_law 264 = .ok (.iadd, 1) := by decide +kernel
theorem dL_law_265 : decode cL_law 265 = .ok (.iaload, 1) := by decide +kernel
theorem dL_law_266 : decode cL_law 266 = .ok (.aload_n 0, 1) := by decide +kernel
theorem dL_law_267 : decode cL_law 267 = .ok (.iload_n 3, 1) := by decide +kernel
theorem dL_law_268 : decode cL_law 268 = .ok (.iconst 2, 1) := by decide +kernel
theorem dL_law_269 : decode cL_law 269 = .ok (.iadd, 1) := by decide +kernel
theorem dL_law_270 : decode cL_law 270 = .ok (.iaload, 1) := by decide +kernel
theorem dL_law_271 : decode cL_law 271 = .ok (.aload_n 0, 1) := by decide +kernel
theorem dL_law_272 : decode cL_law 272 = .ok (.iload_n 3, 1) := by decide +kernel
theorem dL_law_273 : decode cL_law 273 = .ok (.iconst 3, 1) := by decide +kernel
theorem dL_law_274 : decode cL_law 274 = .ok (.iadd, 1) := by decide +kernel
theorem dL_law_275 : decode cL_law 275 = .ok (.iaload, 1) := by decide +kernel
theorem dL_law_276 : decode cL_law 276 = .ok (.aload_n 0, 1) := by decide +kernel
theorem dL_law_277 : decode cL_law 277 = .ok (.iload_n 3, 1) := by decide +kernel
theorem dL_law_278 : decode cL_law 278 = .ok (.iconst 4, 1) := by decide +kernel
theorem dL_law_279 : decode cL_law 279 = .ok (.iadd, 1) := by decide +kernel
theorem dL_law_280 : decode cL_law 280 = .ok (.iaload, 1) := by decide +kernel
theorem dL_law_281 : decode cL_law 281 = .ok (.invokevirtual 33, 3) := by decide +kernel
theorem dL_law_284 : decode cL_law 284 = .ok (.aload_n 2, 1) := by decide +kernel
theorem dL_law_285 : decode cL_law 285 = .ok (.aload_n 0, 1) := by decide +kernel
theorem dL_law_286 : decode cL_law 286 = .ok (.iload_n 3, 1) := by decide +kernel
theorem dL_law_287 : decode cL_law 287 = .ok (.iconst 1, 1) := by decide +kernel
theorem dL_law_288 : decode cL_law 288 = .ok (.iadd, 1) := by decide +kernel
theorem dL_law_289 : decode cL_law 289 = .ok (.iaload, 1) := by decide +kernel
theorem dL_law_290 : decode cL_law 290 = .ok (.aload_n 0, 1) := by decide +kernel
theorem dL_law_291 : decode cL_law 291 = .ok (.iload_n 3, 1) := by decide +kernel
theorem dL_law_292 : decode cL_law 292 = .ok (.iconst 2, 1) := by decide +kernel
theorem dL_law_293 : decode cL_law 293 = .ok (.iadd, 1) := by decide +kernel
theorem dL_law_294 : decode cL_law 294 = .ok (.iaload, 1) := by decide +kernel
theorem dL_law_295 : decode cL_law 295 = .ok (.aload_n 0, 1) := by decide +kernel
theorem dL_law_296 : decode cL_law 296 = .ok (.iload_n 3, 1) := by decide +kernel
theorem dL_law_297 : decode cL_law 297 = .ok (.iconst 3, 1) := by decide +kernel
theorem dL_law_298 : decode cL_law 298 = .ok (.iadd, 1) := by decide +kernel
theorem dL_law_299 : decode cL_law 299 = .ok (.iaload, 1) := by decide +kernel
theorem dL_law_300 : decode cL_law 300 = .ok (.aload_n 0, 1) := by decide +kernel
theorem dL_law_301 : decode cL_law 301 = .ok (.iload_n 3, 1) := by decide +kernel
theorem dL_law_302 : decode cL_law 302 = .ok (.iconst 4, 1) := by decide +kernel
theorem dL_law_303 : decode cL_law 303 = .ok (.iadd, 1) := by decide +kernel
theorem dL_law_304 : decode cL_law 304 = .ok (.iaload, 1) := by decide +kernel
theorem dL_law_305 : decode cL_law 305 = .ok (.invokevirtual 37, 3) := by decide +kernel
theorem dL_law_308 : decode cL_law 308 = .ok (.if_icmp .eq 285, 3) := by decide +kernel
theorem dL_law_311 : decode cL_law 311 = .ok (.iconst 0, 1) := by decide +kernel
theorem dL_law_312 : decode cL_law 312 = .ok (.ireturn, 1) := by decide +kernel
theorem dL_law_313 : decode cL_law 313 = .ok (.aload_n 1, 1) := by decide +kernel
theorem dL_law_314 : decode cL_law 314 = .ok (.aload_n 0, 1) := by decide +kernel
theorem dL_law_315 : decode cL_law 315 = .ok (.iload_n 3, 1) := by decide +kernel
theorem dL_law_316 : decode cL_law 316 = .ok (.iconst 1, 1) := by decide +kernel
theorem dL_law_317 : decode cL_law 317 = .ok (.iadd, 1) := by decide +kernel
theorem dL_law_318 : decode cL_law 318 = .ok (.iaload, 1) := by decide +kernel
theorem dL_law_319 : decode cL_law 319 = .ok (.invokevirtual 38, 3) := by decide +kernel
theorem dL_law_322 : decode cL_law 322 = .ok (.aload_n 2, 1) := by decide +kernel
theorem dL_law_323 : decode cL_law 323 = .ok (.aload_n 0, 1) := by decide +kernel
theorem dL_law_324 : decode cL_law 324 = .ok (.iload_n 3, 1) := by decide +kernel
theorem dL_law_325 : decode cL_law 325 = .ok (.iconst 1, 1) := by decide +kernel
theorem dL_law_326 : decode cL_law 326 = .ok (.iadd, 1) := by decide +kernel
theorem dL_law_327 : decode cL_law 327 = .ok (.iaload, 1) := by decide +kernel
theorem dL_law_328 : decode cL_law 328 = .ok (.invokevirtual 42, 3) := by decide +kernel
theorem dL_law_331 : decode cL_law 331 = .ok (.if_icmp .eq 262, 3) := by decide +kernel
theorem dL_law_334 : decode cL_law 334 = .ok (.iconst 0, 1) := by decide +kernel
theorem dL_law_335 : decode cL_law 335 = .ok (.ireturn, 1) := by decide +kernel
theorem dL_law_336 : decode cL_law 336 = .ok (.aload_n 1, 1) := by decide +kernel
theorem dL_law_337 : decode cL_law 337 = .ok (.aload_n 0, 1) := by decide +kernel
theorem dL_law_338 : decode cL_law 338 = .ok (.iload_n 3, 1) := by decide +kernel
theorem dL_law_339 : decode cL_law 339 = .ok (.iconst 1, 1) := by decide +kernel
theorem dL_law_340 : decode cL_law 340 = .ok (.iadd, 1) := by decide +kernel
theorem dL_law_341 : decode cL_law 341 = .ok (.iaload, 1) := by decide +kernel
theorem dL_law_342 : decode cL_law 342 = .ok (.aload_n 0, 1) := by decide +kernel
theorem dL_law_343 : decode cL_law 343 = .ok (.iload_n 3, 1) := by decide +kernel
theorem dL_law_344 : decode cL_law 344 = .ok (.iconst 2, 1) := by decide +kernel
theorem dL_law_345 : decode cL_law 345 = .ok (.iadd, 1) := by decide +kernel
theorem dL_law_346 : decode cL_law 346 = .ok (.iaload, 1) := by decide +kernel
theorem dL_law_347 : decode cL_law 347 = .ok (.aload_n 0, 1) := by decide +kernel
theorem dL_law_348 : decode cL_law 348 = .ok (.iload_n 3, 1) := by decide +kernel
theorem dL_law_349 : decode cL_law 349 = .ok (.iconst 3, 1) := by decide +kernel
theorem dL_law_350 : decode cL_law 350 = .ok (.iadd, 1) := by decide +kernel
theorem dL_law_351 : decode cL_law 351 = .ok (.iaload, 1) := by decide +kernel
theorem dL_law_352 : decode cL_law 352 = .ok (.aload_n 0, 1) := by decide +kernel
theorem dL_law_353 : decode cL_law 353 = .ok (.iload_n 3, 1) := by decide +kernel
theorem dL_law_354 : decode cL_law 354 = .ok (.iconst 4, 1) := by decide +kernel
theorem dL_law_355 : decode cL_law 355 = .ok (.iadd, 1) := by decide +kernel
theorem dL_law_356 : decode cL_law 356 = .ok (.iaload, 1) := by decide +kernel
theorem dL_law_357 : decode cL_law 357 = .ok (.aload_n 0, 1) := by decide +kernel
theorem dL_law_358 : decode cL_law 358 = .ok (.iload_n 3, 1) := by decide +kernel
theorem dL_law_359 : decode cL_law 359 = .ok (.iconst 5, 1) := by decide +kernel
theorem dL_law_360 : decode cL_law 360 = .ok (.iadd, 1) := by decide +kernel
theorem dL_law_361 : decode cL_law 361 = .ok (.iaload, 1) := by decide +kernel
theorem dL_law_362 : decode cL_law 362 = .ok (.invokevirtual 43, 3) := by decide +kernel
theorem dL_law_365 : decode cL_law 365 = .ok (.aload_n 2, 1) := by decide +kernel
theorem dL_law_366 : decode cL_law 366 = .ok (.aload_n 0, 1) := by decide +kernel
theorem dL_law_367 : decode cL_law 367 = .ok (.iload_n 3, 1) := by decide +kernel
theorem dL_law_368 : decode cL_law 368 = .ok (.iconst 1, 1) := by decide +kernel
theorem dL_law_369 : decode cL_law 369 = .ok (.iadd, 1) := by decide +kernel
theorem dL_law_370 : decode cL_law 370 = .ok (.iaload, 1) := by decide +kernel
theorem dL_law_371 : decode cL_law 371 = .ok (.aload_n 0, 1) := by decide +kernel
theorem dL_law_372 : decode cL_law 372 = .ok (.iload_n 3, 1) := by decide +kernel
theorem dL_law_373 : decode cL_law 373 = .ok (.iconst 2, 1) := by decide +kernel
theorem dL_law_374 : decode cL_law 374 = .ok (.iadd, 1) := by decide +kernel
theorem dL_law_375 : decode cL_law 375 = .ok (.iaload, 1) := by decide +kernel
theorem dL_law_376 : decode cL_law 376 = .ok (.aload_n 0, 1) := by decide +kernel
theorem dL_law_377 : decode cL_law 377 = .ok (.iload_n 3, 1) := by decide +kernel
theorem dL_law_378 : decode cL_law 378 = .ok (.iconst 3, 1) := by decide +kernel
theorem dL_law_379 : decode cL_law 379 = .ok (.iadd, 1) := by decide +kernel
theorem dL_law_380 : decode cL_law 380 = .ok (.iaload, 1) := by decide +kernel
theorem dL_law_381 : decode cL_law 381 = .ok (.aload_n 0, 1) := by decide +kernel
theorem dL_law_382 : decode cL_law 382 = .ok (.iload_n 3, 1) := by decide +kernel
theorem dL_law_383 : decode cL_law 383 = .ok (.iconst 4, 1) := by decide +kernel
theorem dL_law_384 : decode cL_law 384 = .ok (.iadd, 1) := by decide +kernel
theorem dL_law_385 : decode cL_law 385 = .ok (.iaload, 1) := by decide +kernel
theorem dL_law_386 : decode cL_law 386 = .ok (.aload_n 0, 1) := by decide +kernel
theorem dL_law_387 : decode cL_law 387 = .ok (.iload_n 3, 1) := by decide +kernel
theorem dL_law_388 : decode cL_law 388 = .ok (.iconst 5, 1) := by decide +kernel
theorem dL_law_389 : decode cL_law 389 = .ok (.iadd, 1) := by decide +kernel
theorem dL_law_390 : decode cL_law 390 = .ok (.iaload, 1) := by decide +kernel
theorem dL_law_391 : decode cL_law 391 = .ok (.invokevirtual 47, 3) := by decide +kernel
theorem dL_law_394 : decode cL_law 394 = .ok (.if_icmp .eq 199, 3) := by decide +kernel
theorem dL_law_397 : decode cL_law 397 = .ok (.iconst 0, 1) := by decide +kernel
theorem dL_law_398 : decode cL_law 398 = .ok (.ireturn, 1) := by decide +kernel
theorem dL_law_399 : decode cL_law 399 = .ok (.aload_n 1, 1) := by decide +kernel
theorem dL_law_400 : decode cL_law 400 = .ok (.aload_n 0, 1) := by decide +kernel
theorem dL_law_401 : decode cL_law 401 = .ok (.iload_n 3, 1) := by decide +kernel
theorem dL_law_402 : decode cL_law 402 = .ok (.iconst 1, 1) := by decide +kernel
theorem dL_law_403 : decode cL_law 403 = .ok (.iadd, 1) := by decide +kernel
theorem dL_law_404 : decode cL_law 404 = .ok (.iaload, 1) := by decide +kernel
theorem dL_law_405 : decode cL_law 405 = .ok (.invokevirtual 48, 3) := by decide +kernel
theorem dL_law_408 : decode cL_law 408 = .ok (.aload_n 2, 1) := by decide +kernel
theorem dL_law_409 : decode cL_law 409 = .ok (.aload_n 0, 1) := by decide +kernel
theorem dL_law_410 : decode cL_law 410 = .ok (.iload_n 3, 1) := by decide +kernel
theorem dL_law_411 : decode cL_law 411 = .ok (.iconst 1, 1) := by decide +kernel
theorem dL_law_412 : decode cL_law 412 = .ok (.iadd, 1) := by decide +kernel
theorem dL_law_413 : decode cL_law 413 = .ok (.iaload, 1) := by decide +kernel
theorem dL_law_414 : decode cL_law 414 = .ok (.invokevirtual 51, 3) := by decide +kernel
theorem dL_law_417 : decode cL_law 417 = .ok (.if_icmp .eq 176, 3) := by decide +kernel
theorem dL_law_420 : decode cL_law 420 = .ok (.iconst 0, 1) := by decide +kernel
theorem dL_law_421 : decode cL_law 421 = .ok (.ireturn, 1) := by decide +kernel
theorem dL_law_422 : decode cL_law 422 = .ok (.aload_n 1, 1) := by decide +kernel
theorem dL_law_423 : decode cL_law 423 = .ok (.invokevirtual 52, 3) := by decide +kernel
theorem dL_law_426 : decode cL_law 426 = .ok (.aload_n 2, 1) := by decide +kernel
theorem dL_law_427 : decode cL_law 427 = .ok (.invokevirtual 56, 3) := by decide +kernel
theorem dL_law_430 : decode cL_law 430 = .ok (.if_icmp .eq 163, 3) := by decide +kernel
theorem dL_law_433 : decode cL_law 433 = .ok (.iconst 0, 1) := by decide +kernel
theorem dL_law_434 : decode cL_law 434 = .ok (.ireturn, 1) := by decide +kernel
theorem dL_law_435 : decode cL_law 435 = .ok (.aload_n 1, 1) := by decide +kernel
theorem dL_law_436 : decode cL_law 436 = .ok (.aload_n 0, 1) := by decide +kernel
theorem dL_law_437 : decode cL_law 437 = .ok (.iload_n 3, 1) := by decide +kernel
theorem dL_law_438 : decode cL_law 438 = .ok (.iconst 1, 1) := by decide +kernel
theorem dL_law_439 : decode cL_law 439 = .ok (.iadd, 1) := by decide +kernel
theorem dL_law_440 : decode cL_law 440 = .ok (.iaload, 1) := by decide +kernel
theorem dL_law_441 : decode cL_law 441 = .ok (.invokevirtual 57, 3) := by decide +kernel
theorem dL_law_444 : decode cL_law 444 = .ok (.aload_n 2, 1) := by decide +kernel
theorem dL_law_445 : decode cL_law 445 = .ok (.aload_n 0, 1) := by decide +kernel
theorem dL_law_446 : decode cL_law 446 = .ok (.iload_n 3, 1) := by decide +kernel
theorem dL_law_447 : decode cL_law 447 = .ok (.iconst 1, 1) := by decide +kernel
theorem dL_law_448 : decode cL_law 448 = .ok (.iadd, 1) := by decide +kernel
theorem dL_law_449 : decode cL_law 449 = .ok (.iaload, 1) := by decide +kernel
theorem dL_law_450 : decode cL_law 450 = .ok (.invokevirtual 60, 3) := by decide +kernel
theorem dL_law_453 : decode cL_law 453 = .ok (.if_icmp .eq 140, 3) := by decide +kernel
theorem dL_law_456 : decode cL_law 456 = .ok (.iconst 0, 1) := by decide +kernel
theorem dL_law_457 : decode cL_law 457 = .ok (.ireturn, 1) := by decide +kernel
theorem dL_law_458 : decode cL_law 458 = .ok (.aload_n 1, 1) := by decide +kernel
theorem dL_law_459 : decode cL_law 459 = .ok (.aload_n 0, 1) := by decide +kernel
theorem dL_law_460 : decode cL_law 460 = .ok (.iload_n 3, 1) := by decide +kernel
theorem dL_law_461 : decode cL_law 461 = .ok (.iconst 1, 1) := by decide +kernel
theorem dL_law_462 : decode cL_law 462 = .ok (.iadd, 1) := by decide +kernel
theorem dL_law_463 : decode cL_law 463 = .ok (.iaload, 1) := by decide +kernel
theorem dL_law_464 : decode cL_law 464 = .ok (.aload_n 0, 1) := by decide +kernel
theorem dL_law_465 : decode cL_law 465 = .ok (.iload_n 3, 1) := by decide +kernel
theorem dL_law_466 : decode cL_law 466 = .ok (.iconst 2, 1) := by decide +kernel
theorem dL_law_467 : decode cL_law 467 = .ok (.iadd, 1) := by decide +kernel
theorem dL_law_468 : decode cL_law 468 = .ok (.iaload, 1) := by decide +kernel
theorem dL_law_469 : decode cL_law 469 = .ok (.aload_n 0, 1) := by decide +kernel
theorem dL_law_470 : decode cL_law 470 = .ok (.iload_n 3, 1) := by decide +kernel
theorem dL_law_471 : decode cL_law 471 = .ok (.iconst 3, 1) := by decide +kernel
theorem dL_law_472 : decode cL_law 472 = .ok (.iadd, 1) := by decide +kernel
theorem dL_law_473 : decode cL_law 473 = .ok (.iaload, 1) := by decide +kernel
theorem dL_law_474 : decode cL_law 474 = .ok (.invokevirtual 61, 3) := by decide +kernel
theorem dL_law_477 : decode cL_law 477 = .ok (.aload_n 2, 1) := by decide +kernel
theorem dL_law_478 : decode cL_law 478 = .ok (.aload_n 0, 1) := by decide +kernel
theorem dL_law_479 : decode cL_law 479 = .ok (.iload_n 3, 1) := by decide +kernel
theorem dL_law_480 : decode cL_law 480 = .ok (.iconst 1, 1) := by decide +kernel
theorem dL_law_481 : decode cL_law 481 = .ok (.iadd, 1) := by decide +kernel
theorem dL_law_482 : decode cL_law 482 = .ok (.iaload, 1) := by decide +kernel
theorem dL_law_483 : decode cL_law 483 = .ok (.aload_n 0, 1) := by decide +kernel
theorem dL_law_484 : decode cL_law 484 = .ok (.iload_n 3, 1) := by decide +kernel
theorem dL_law_485 : decode cL_law 485 = .ok (.iconst 2, 1) := by decide +kernel
theorem dL_law_486 : decode cL_law 486 = .ok (.iadd, 1) := by decide +kernel
theorem dL_law_487 : decode cL_law 487 = .ok (.iaload, 1) := by decide +kernel
theorem dL_law_488 : decode cL_law 488 = .ok (.aload_n 0, 1) := by decide +kernel
theorem dL_law_489 : decode cL_law 489 = .ok (.iload_n 3, 1) := by decide +kernel
theorem dL_law_490 : decode cL_law 490 = .ok (.iconst 3, 1) := by decide +kernel
theorem dL_law_491 : decode cL_law 491 = .ok (.iadd, 1) := by decide +kernel
theorem dL_law_492 : decode cL_law 492 = .ok (.iaload, 1) := by decide +kernel
theorem dL_law_493 : decode cL_law 493 = .ok (.invokevirtual 65, 3) := by decide +kernel
theorem dL_law_496 : decode cL_law 496 = .ok (.if_icmp .eq 97, 3) := by decide +kernel
theorem dL_law_499 : decode cL_law 499 = .ok (.iconst 0, 1) := by decide +kernel
theorem dL_law_500 : decode cL_law 500 = .ok (.ireturn, 1) := by decide +kernel
theorem dL_law_501 : decode cL_law 501 = .ok (.aload_n 1, 1) := by decide +kernel
theorem dL_law_502 : decode cL_law 502 = .ok (.aload_n 0, 1) := by decide +kernel
theorem dL_law_503 : decode cL_law 503 = .ok (.iload_n 3, 1) := by decide +kernel
theorem dL_law_504 : decode cL_law 504 = .ok (.iconst 1, 1) := by decide +kernel
theorem dL_law_505 : decode cL_law 505 = .ok (.iadd, 1) := by decide +kernel
theorem dL_law_506 : decode cL_law 506 = .ok (.iaload, 1) := by decide +kernel
theorem dL_law_507 : decode cL_law 507 = .ok (.invokevirtual 66, 3) := by decide +kernel
theorem dL_law_510 : decode cL_law 510 = .ok (.aload_n 2, 1) := by decide +kernel
theorem dL_law_511 : decode cL_law 511 = .ok (.aload_n 0, 1) := by decide +kernel
theorem dL_law_512 : decode cL_law 512 = .ok (.iload_n 3, 1) := by decide +kernel
theorem dL_law_513 : decode cL_law 513 = .ok (.iconst 1, 1) := by decide +kernel
theorem dL_law_514 : decode cL_law 514 = .ok (.iadd, 1) := by decide +kernel
theorem dL_law_515 : decode cL_law 515 = .ok (.iaload, 1) := by decide +kernel
theorem dL_law_516 : decode cL_law 516 = .ok (.invokevirtual 69, 3) := by decide +kernel
theorem dL_law_519 : decode cL_law 519 = .ok (.if_icmp .eq 74, 3) := by decide +kernel
theorem dL_law_522 : decode cL_law 522 = .ok (.iconst 0, 1) := by decide +kernel
theorem dL_law_523 : decode cL_law 523 = .ok (.ireturn, 1) := by decide +kernel
theorem dL_law_524 : decode cL_law 524 = .ok (.aload_n 1, 1) := by decide +kernel
theorem dL_law_525 : decode cL_law 525 = .ok (.aload_n 0, 1) := by decide +kernel
theorem dL_law_526 : decode cL_law 526 = .ok (.iload_n 3, 1) := by decide +kernel
theorem dL_law_527 : decode cL_law 527 = .ok (.iconst 1, 1) := by decide +kernel
theorem dL_law_528 : decode cL_law 528 = .ok (.iadd, 1) := by decide +kernel
theorem dL_law_529 : decode cL_law 529 = .ok (.iaload, 1) := by decide +kernel
theorem dL_law_530 : decode cL_law 530 = .ok (.aload_n 0, 1) := by decide +kernel
theorem dL_law_531 : decode cL_law 531 = .ok (.iload_n 3, 1) := by decide +kernel
theorem dL_law_532 : decode cL_law 532 = .ok (.iconst 2, 1) := by decide +kernel
theorem dL_law_533 : decode cL_law 533 = .ok (.iadd, 1) := by decide +kernel
theorem dL_law_534 : decode cL_law 534 = .ok (.iaload, 1) := by decide +kernel
theorem dL_law_535 : decode cL_law 535 = .ok (.invokevirtual 70, 3) := by decide +kernel
theorem dL_law_538 : decode cL_law 538 = .ok (.aload_n 2, 1) := by decide +kernel
theorem dL_law_539 : decode cL_law 539 = .ok (.aload_n 0, 1) := by decide +kernel
theorem dL_law_540 : decode cL_law 540 = .ok (.iload_n 3, 1) := by decide +kernel
theorem dL_law_541 : decode cL_law 541 = .ok (.iconst 1, 1) := by decide +kernel
theorem dL_law_542 : decode cL_law 542 = .ok (.iadd, 1) := by decide +kernel
theorem dL_law_543 : decode cL_law 543 = .ok (.iaload, 1) := by decide +kernel
theorem dL_law_544 : decode cL_law 544 = .ok (.aload_n 0, 1) := by decide +kernel
theorem dL_law_545 : decode cL_law 545 = .ok (.iload_n 3, 1) := by decide +kernel
theorem dL_law_546 : decode cL_law 546 = .ok (.iconst 2, 1) := by decide +kernel
theorem dL_law_547 : decode cL_law 547 = .ok (.iadd, 1) := by decide +kernel
theorem dL_law_548 : decode cL_law 548 = .ok (.iaload, 1) := by decide +kernel
theorem dL_law_549 : decode cL_law 549 = .ok (.invokevirtual 74, 3) := by decide +kernel
theorem dL_law_552 : decode cL_law 552 = .ok (.if_icmp .eq 41, 3) := by decide +kernel
theorem dL_law_555 : decode cL_law 555 = .ok (.iconst 0, 1) := by decide +kernel
theorem dL_law_556 : decode cL_law 556 = .ok (.ireturn, 1) := by decide +kernel
theorem dL_law_557 : decode cL_law 557 = .ok (.aload_n 1, 1) := by decide +kernel
theorem dL_law_558 : decode cL_law 558 = .ok (.aload_n 0, 1) := by decide +kernel
theorem dL_law_559 : decode cL_law 559 = .ok (.iload_n 3, 1) := by decide +kernel
theorem dL_law_560 : decode cL_law 560 = .ok (.iconst 1, 1) := by decide +kernel
theorem dL_law_561 : decode cL_law 561 = .ok (.iadd, 1) := by decide +kernel
theorem dL_law_562 : decode cL_law 562 = .ok (.iaload, 1) := by decide +kernel
theorem dL_law_563 : decode cL_law 563 = .ok (.invokevirtual 75, 3) := by decide +kernel
theorem dL_law_566 : decode cL_law 566 = .ok (.aload_n 2, 1) := by decide +kernel
theorem dL_law_567 : decode cL_law 567 = .ok (.aload_n 0, 1) := by decide +kernel
theorem dL_law_568 : decode cL_law 568 = .ok (.iload_n 3, 1) := by decide +kernel
theorem dL_law_569 : decode cL_law 569 = .ok (.iconst 1, 1) := by decide +kernel
theorem dL_law_570 : decode cL_law 570 = .ok (.iadd, 1) := by decide +kernel
theorem dL_law_571 : decode cL_law 571 = .ok (.iaload, 1) := by decide +kernel
theorem dL_law_572 : decode cL_law 572 = .ok (.invokevirtual 78, 3) := by decide +kernel
theorem dL_law_575 : decode cL_law 575 = .ok (.if_icmp .eq 18, 3) := by decide +kernel
theorem dL_law_578 : decode cL_law 578 = .ok (.iconst 0, 1) := by decide +kernel
theorem dL_law_579 : decode cL_law 579 = .ok (.ireturn, 1) := by decide +kernel
theorem dL_law_580 : decode cL_law 580 = .ok (.aload_n 1, 1) := by decide +kernel
theorem dL_law_581 : decode cL_law 581 = .ok (.invokevirtual 79, 3) := by decide +kernel
theorem dL_law_584 : decode cL_law 584 = .ok (.aload_n 2, 1) := by decide +kernel
theorem dL_law_585 : decode cL_law 585 = .ok (.invokevirtual 82, 3) := by decide +kernel
theorem dL_law_588 : decode cL_law 588 = .ok (.if_icmp .eq 5, 3) := by decide +kernel
theorem dL_law_591 : decode cL_law 591 = .ok (.iconst 0, 1) := by decide +kernel
theorem dL_law_592 : decode cL_law 592 = .ok (.ireturn, 1) := by decide +kernel
theorem dL_law_593 : decode cL_law 593 = .ok (.iinc 3 6, 3) := by decide +kernel
theorem dL_law_596 : decode cL_law 596 = .ok (.goto (-578), 3) := by decide +kernel
theorem dL_law_599 : decode cL_law 599 = .ok (.iconst 1, 1) := by decide +kernel
theorem dL_law_600 : decode cL_law 600 = .ok (.ireturn, 1) := by decide +kernel
end
section
theorem dX9_init_0 : decode cX9_init 0 = .ok (.aload_n 0, 1) := by decide +kernel
theorem dX9_init_1 : decode cX9_init 1 = .ok (.invokespecial 1, 3) := by decide +kernel
theorem dX9_init_4 : decode cX9_init 4 = .ok (.aload_n 0, 1) := by decide +kernel
theorem dX9_init_5 : decode cX9_init 5 = .ok (.sipush 208, 3) := by decide +kernel
theorem dX9_init_8 : decode cX9_init 8 = .ok (.newarray .int, 2) := by decide +kernel
theorem dX9_init_10 : decode cX9_init 10 = .ok (.putfield 7, 3) := by decide +kernel
theorem dX9_init_13 : decode cX9_init 13 = .ok (.aload_n 0, 1) := by decide +kernel
theorem dX9_init_14 : decode cX9_init 14 = .ok (.iconst 4, 1) := by decide +kernel
theorem dX9_init_15 : decode cX9_init 15 = .ok (.newarray .int, 2) := by decide +kernel
theorem dX9_init_17 : decode cX9_init 17 = .ok (.putfield 13, 3) := by decide +kernel
theorem dX9_init_20 : decode cX9_init 20 = .ok (.aload_n 0, 1) := by decide +kernel
theorem dX9_init_21 : decode cX9_init 21 = .ok (.iconst 4, 1) := by decide +kernel
theorem dX9_init_22 : decode cX9_init 22 = .ok (.newarray .int, 2) := by decide +kernel
theorem dX9_init_24 : decode cX9_init 24 = .ok (.putfield 16, 3) := by decide +kernel
theorem dX9_init_27 : decode cX9_init 27 = .ok (.aload_n 0, 1) := by decide +kernel
theorem dX9_init_28 : decode cX9_init 28 = .ok (.bipush 6, 2) := by decide +kernel
theorem dX9_init_30 : decode cX9_init 30 = .ok (.newarray .int, 2) := by decide +kernel
theorem dX9_init_32 : decode cX9_init 32 = .ok (.putfield 19, 3) := by decide +kernel
theorem dX9_init_35 : decode cX9_init 35 = .ok (.aload_n 0, 1) := by decide +kernel
theorem dX9_init_36 : decode cX9_init 36 = .ok (.bipush 6, 2) := by decide +kernel
theorem dX9_init_38 : decode cX9_init 38 = .ok (.newarray .int, 2) := by decide +kernel
theorem dX9_init_40 : decode cX9_init 40 = .ok (.putfield 22, 3) := by decide +kernel
theorem dX9_init_43 : decode cX9_init 43 = .ok (.aload_n 0, 1) := by decide +kernel
theorem dX9_init_44 : decode cX9_init 44 = .ok (.bipush 6, 2) := by decide +kernel
theorem dX9_init_46 : decode cX9_init 46 = .ok (.newarray .int, 2) := by decide +kernel
theorem dX9_init_48 : decode cX9_init 48 = .ok (.putfield 25, 3) := by decide +kernel
theorem dX9_init_51 : decode cX9_init 51 = .ok (.aload_n 0, 1) := by decide +kernel
theorem dX9_init_52 : decode cX9_init 52 = .ok (.bipush 7, 2) := by decide +kernel
theorem dX9_init_54 : decode cX9_init 54 = .ok (.newarray .int, 2) := by decide +kernel
theorem dX9_init_56 : decode cX9_init 56 = .ok (.putfield 28, 3) := by decide +kernel
theorem dX9_init_59 : decode cX9_init 59 = .ok (.aload_n 0, 1) := by decide +kernel
theorem dX9_init_60 : decode cX9_init 60 = .ok (.bipush 7, 2) := by decide +kernel
theorem dX9_init_62 : decode cX9_init 62 = .ok (.newarray .int, 2) := by decide +kernel
theorem dX9_init_64 : decode cX9_init 64 = .ok (.putfield 31, 3) := by decide +kernel
theorem dX9_init_67 : decode cX9_init 67 = .ok (.aload_n 0, 1) := by decide +kernel
theorem dX9_init_68 : decode cX9_init 68 = .ok (.bipush 7, 2) := by decide +kernel
theorem dX9_init_70 : decode cX9_init 70 = .ok (.newarray .int, 2) := by decide +kernel
theorem dX9_init_72 : decode cX9_init 72 = .ok (.putfield 34, 3) := by decide +kernel
theorem dX9_init_75 : decode cX9_init 75 = .ok (.aload_n 0, 1) := by decide +kernel
theorem dX9_init_76 : decode cX9_init 76 = .ok (.bipush 7, 2) := by decide +kernel
theorem dX9_init_78 : decode cX9_init 78 = .ok (.newarray .int, 2) := by decide +kernel
theorem dX9_init_80 : decode cX9_init 80 = .ok (.putfield 37, 3) := by decide +kernel
theorem dX9_init_83 : decode cX9_init 83 = .ok (.aload_n 0, 1) := by decide +kernel
theorem dX9_init_84 : decode cX9_init 84 = .ok (.bipush 7, 2) := by decide +kernel
theorem dX9_init_86 : decode cX9_init 86 = .ok (.newarray .int, 2) := by decide +kernel
theorem dX9_init_88 : decode cX9_init 88 = .ok (.putfield 40, 3) := by decide +kernel
theorem dX9_init_91 : decode cX9_init 91 = .ok (.aload_n 0, 1) := by decide +kernel
theorem dX9_init_92 : decode cX9_init 92 = .ok (.bipush 7, 2) := by decide +kernel
theorem dX9_init_94 : decode cX9_init 94 = .ok (.newarray .int, 2) := by decide +kernel
theorem dX9_init_96 : decode cX9_init 96 = .ok (.putfield 43, 3) := by decide +kernel
theorem dX9_init_99 : decode cX9_init 99 = .ok (.aload_n 0, 1) := by decide +kernel
theorem dX9_init_100 : decode cX9_init 100 = .ok (.bipush 7, 2) := by decide +kernel
theorem dX9_init_102 : decode cX9_init 102 = .ok (.newarray .int, 2) := by decide +kernel
theorem dX9_init_104 : decode cX9_init 104 = .ok (.putfield 46, 3) := by decide +kernel
theorem dX9_init_107 : decode cX9_init 107 = .ok (.aload_n 0, 1) := by decide +kernel
theorem dX9_init_108 : decode cX9_init 108 = .ok (.bipush 7, 2) := by decide +kernel
theorem dX9_init_110 : decode cX9_init 110 = .ok (.newarray .int, 2) := by decide +kernel
theorem dX9_init_112 : decode cX9_init 112 = .ok (.putfield 49, 3) := by decide +kernel
theorem dX9_init_115 : decode cX9_init 115 = .ok (.aload_n 0, 1) := by decide +kernel
theorem dX9_init_116 : decode cX9_init 116 = .ok (.bipush 7, 2) := by decide +kernel
theorem dX9_init_118 : decode cX9_init 118 = .ok (.newarray .int, 2) := by decide +kernel
theorem dX9_init_120 : decode cX9_init 120 = .ok (.putfield 52, 3) := by decide +kernel
theorem dX9_init_123 : decode cX9_init 123 = .ok (.aload_n 0, 1) := by decide +kernel
theorem dX9_init_124 : decode cX9_init 124 = .ok (.bipush 7, 2) := by decide +kernel
theorem dX9_init_126 : decode cX9_init 126 = .ok (.newarray .int, 2) := by decide +kernel
theorem dX9_init_128 : decode cX9_init 128 = .ok (.putfield 55, 3) := by decide +kernel
theorem dX9_init_131 : decode cX9_init 131 = .ok (.aload_n 0, 1) := by decide +kernel
theorem dX9_init_132 : decode cX9_init 132 = .ok (.bipush 6, 2) := by decide +kernel
theorem dX9_init_134 : decode cX9_init 134 = .ok (.newarray .int, 2) := by decide +kernel
theorem dX9_init_136 : decode cX9_init 136 = .ok (.putfield 58, 3) := by decide +kernel
theorem dX9_init_139 : decode cX9_init 139 = .ok (.aload_n 0, 1) := by decide +kernel
theorem dX9_init_140 : decode cX9_init 140 = .ok (.bipush 24, 2) := by decide +kernel
theorem dX9_init_142 : decode cX9_init 142 = .ok (.newarray .int, 2) := by decide +kernel
theorem dX9_init_144 : decode cX9_init 144 = .ok (.putfield 61, 3) := by decide +kernel
theorem dX9_init_147 : decode cX9_init 147 = .ok (.aload_n 0, 1) := by decide +kernel
theorem dX9_init_148 : decode cX9_init 148 = .ok (.sipush 312, 3) := by decide +kernel
theorem dX9_init_151 : decode cX9_init 151 = .ok (.newarray .boolean, 2) := by decide +kernel
theorem dX9_init_153 : decode cX9_init 153 = .ok (.putfield 64, 3) := by decide +kernel
theorem dX9_init_156 : decode cX9_init 156 = .ok (.aload_n 0, 1) := by decide +kernel
theorem dX9_init_157 : decode cX9_init 157 = .ok (.sipush 500, 3) := by decide +kernel
theorem dX9_init_160 : decode cX9_init 160 = .ok (.newarray .int, 2) := by decide +kernel
theorem dX9_init_162 : decode cX9_init 162 = .ok (.putfield 68, 3) := by decide +kernel
theorem dX9_init_165 : decode cX9_init 165 = .ok (.aload_n 0, 1) := by decide +kernel
theorem dX9_init_166 : decode cX9_init 166 = .ok (.bipush 96, 2) := by decide +kernel
theorem dX9_init_168 : decode cX9_init 168 = .ok (.newarray .int, 2) := by decide +kernel
theorem dX9_init_170 : decode cX9_init 170 = .ok (.putfield 71, 3) := by decide +kernel
theorem dX9_init_173 : decode cX9_init 173 = .ok (.aload_n 0, 1) := by decide +kernel
theorem dX9_init_174 : decode cX9_init 174 = .ok (.iconst (-1), 1) := by decide +kernel
theorem dX9_init_175 : decode cX9_init 175 = .ok (.putfield 74, 3) := by decide +kernel
theorem dX9_init_178 : decode cX9_init 178 = .ok (.aload_n 0, 1) := by decide +kernel
theorem dX9_init_179 : decode cX9_init 179 = .ok (.bipush 7, 2) := by decide +kernel
theorem dX9_init_181 : decode cX9_init 181 = .ok (.newarray .int, 2) := by decide +kernel
theorem dX9_init_183 : decode cX9_init 183 = .ok (.putfield 78, 3) := by decide +kernel
theorem dX9_init_186 : decode cX9_init 186 = .ok (.aload_n 0, 1) := by decide +kernel
theorem dX9_init_187 : decode cX9_init 187 = .ok (.bipush 7, 2) := by decide +kernel
theorem dX9_init_189 : decode cX9_init 189 = .ok (.newarray .int, 2) := by decide +kernel
theorem dX9_init_191 : decode cX9_init 191 = .ok (.putfield 81, 3) := by decide +kernel
theorem dX9_init_194 : decode cX9_init 194 = .ok (.aload_n 0, 1) := by decide +kernel
theorem dX9_init_195 : decode cX9_init 195 = .ok (.sipush 512, 3) := by decide +kernel
theorem dX9_init_198 : decode cX9_init 198 = .ok (.newarray .boolean, 2) := by decide +kernel
theorem dX9_init_200 : decode cX9_init 200 = .ok (.putfield 84, 3) := by decide +kernel
theorem dX9_init_203 : decode cX9_init 203 = .ok (.aload_n 0, 1) := by decide +kernel
theorem dX9_init_204 : decode cX9_init 204 = .ok (.bipush 7, 2) := by decide +kernel
theorem dX9_init_206 : decode cX9_init 206 = .ok (.newarray .int, 2) := by decide +kernel
theorem dX9_init_208 : decode cX9_init 208 = .ok (.putfield 87, 3) := by decide +kernel
theorem dX9_init_211 : decode cX9_init 211 = .ok (.aload_n 0, 1) := by decide +kernel
theorem dX9_init_212 : decode cX9_init 212 = .ok (.bipush 7, 2) := by decide +kernel
theorem dX9_init_214 : decode cX9_init 214 = .ok (.newarray .int, 2) := by decide +kernel
theorem dX9_init_216 : decode cX9_init 216 = .ok (.putfield 90, 3) := by decide +kernel
theorem dX9_init_219 : decode cX9_init 219 = .ok (.aload_n 0, 1) := by decide +kernel
theorem dX9_init_220 : decode cX9_init 220 = .ok (.iconst 4, 1) := by decide +kernel
theorem dX9_init_221 : decode cX9_init 221 = .ok (.newarray .int, 2) := by decide +kernel
theorem dX9_init_223 : decode cX9_init 223 = .ok (.putfield 93, 3) := by decide +kernel
theorem dX9_init_226 : decode cX9_init 226 = .ok (.iconst 0, 1) := by decide +kernel
theorem dX9_init_227 : decode cX9_init 227 = .ok (.istore_n 1, 1) := by decide +kernel
theorem dX9_init_228 : decode cX9_init 228 = .ok (.iload_n 1, 1) := by decide +kernel
theorem dX9_init_229 : decode cX9_init 229 = .ok (.sipush 208, 3) := by decide +kernel
theorem dX9_init_232 : decode cX9_init 232 = .ok (.if_icmp .ge 17, 3) := by decide +kernel
theorem dX9_init_235 : decode cX9_init 235 = .ok (.aload_n 0, 1) := by decide +kernel
theorem dX9_init_236 : decode cX9_init 236 = .ok (.getfield 7, 3) := by decide +kernel
theorem dX9_init_239 : decode cX9_init 239 = .ok (.iload_n 1, 1) := by decide +kernel
theorem dX9_init_240 : decode cX9_init 240 = .ok (.bipush 40, 2) := by decide +kernel
theorem dX9_init_242 : decode cX9_init 242 = .ok (.iastore, 1) := by decide +kernel
theorem dX9_init_243 : decode cX9_init 243 = .ok (.iinc 1 1, 3) := by decide +kernel
theorem dX9_init_246 : decode cX9_init 246 = .ok (.goto (-18), 3) := by decide +kernel
theorem dX9_init_249 : decode cX9_init 249 = .ok (.iconst 0, 1) := by decide +kernel
theorem dX9_init_250 : decode cX9_init 250 = .ok (.istore_n 1, 1) := by decide +kernel
theorem dX9_init_251 : decode cX9_init 251 = .ok (.iload_n 1, 1) := by decide +kernel
theorem dX9_init_252 : decode cX9_init 252 = .ok (.bipush 6, 2) := by decide +kernel
theorem dX9_init_254 : decode cX9_init 254 = .ok (.if_icmp .ge 30, 3) := by decide +kernel
theorem dX9_init_257 : decode cX9_init 257 = .ok (.aload_n 0, 1) := by decide +kernel
theorem dX9_init_258 : decode cX9_init 258 = .ok (.getfield 19, 3) := by decide +kernel
theorem dX9_init_261 : decode cX9_init 261 = .ok (.iload_n 1, 1) := by decide +kernel
theorem dX9_init_262 : decode cX9_init 262 = .ok (.iconst 5, 1) := by decide +kernel
theorem dX9_init_263 : decode cX9_init 263 = .ok (.iastore, 1) := by decide +kernel
theorem dX9_init_264 : decode cX9_init 264 = .ok (.aload_n 0, 1) := by decide +kernel
theorem dX9_init_265 : decode cX9_init 265 = .ok (.getfield 22, 3) := by decide +kernel
theorem dX9_init_268 : decode cX9_init 268 = .ok (.iload_n 1, 1) := by decide +kernel
theorem dX9_init_269 : decode cX9_init 269 = .ok (.iconst 2, 1) := by decide +kernel
theorem dX9_init_270 : decode cX9_init 270 = .ok (.iastore, 1) := by decide +kernel
theorem dX9_init_271 : decode cX9_init 271 = .ok (.aload_n 0, 1) := by decide +kernel
theorem dX9_init_272 : decode cX9_init 272 = .ok (.getfield 58, 3) := by decide +kernel
theorem dX9_init_275 : decode cX9_init 275 = .ok (.iload_n 1, 1) := by decide +kernel
theorem dX9_init_276 : decode cX9_init 276 = .ok (.iconst (-1), 1) := by decide +kernel
theorem dX9_init_277 : decode cX9_init 277 = .ok (.iastore, 1) := by decide +kernel
theorem dX9_init_278 : decode cX9_init 278 = .ok (.iinc 1 1, 3) := by decide +kernel
theorem dX9_init_281 : decode cX9_init 281 = .ok (.goto (-30), 3) := by decide +kernel
theorem dX9_init_284 : decode cX9_init 284 = .ok (.iconst 0, 1) := by decide +kernel
theorem dX9_init_285 : decode cX9_init 285 = .ok (.istore_n 1, 1) := by decide +kernel
theorem dX9_init_286 : decode cX9_init 286 = .ok (.iload_n 1, 1) := by decide +kernel
theorem dX9_init_287 : decode cX9_init 287 = .ok (.bipush 24, 2) := by decide +kernel
theorem dX9_init_289 : decode cX9_init 289 = .ok (.if_icmp .ge 16, 3) := by decide +kernel
theorem dX9_init_292 : decode cX9_init 292 = .ok (.aload_n 0, 1) := by decide +kernel
theorem dX9_init_293 : decode cX9_init 293 = .ok (.getfield 61, 3) := by decide +kernel
theorem dX9_init_296 : decode cX9_init 296 = .ok (.iload_n 1, 1) := by decide +kernel
theorem dX9_init_297 : decode cX9_init 297 = .ok (.iconst (-1), 1) := by decide +kernel
theorem dX9_init_298 : decode cX9_init 298 = .ok (.iastore, 1) := by decide +kernel
theorem dX9_init_299 : decode cX9_init 299 = .ok (.iinc 1 1, 3) := by decide +kernel
theorem dX9_init_302 : decode cX9_init 302 = .ok (.goto (-16), 3) := by decide +kernel
theorem dX9_init_305 : decode cX9_init 305 = .ok (.return_, 1) := by decide +kernel
theorem dX9_isIn_0 : decode cX9_isIn 0 = .ok (.iload_n 0, 1) := by decide +kernel
theorem dX9_isIn_1 : decode cX9_isIn 1 = .ok (.iload_n 1, 1) := by decide +kernel
theorem dX9_isIn_2 : decode cX9_isIn 2 = .ok (.if_icmp .lt 12, 3) := by decide +kernel
theorem dX9_isIn_5 : decode cX9_isIn 5 = .ok (.iload_n 0, 1) := by decide +kernel
theorem dX9_isIn_6 : decode cX9_isIn 6 = .ok (.iload_n 2, 1) := by decide +kernel
theorem dX9_isIn_7 : decode cX9_isIn 7 = .ok (.if_icmp .gt 7, 3) := by decide +kernel
theorem dX9_isIn_10 : decode cX9_isIn 10 = .ok (.iconst 1, 1) := by decide +kernel
theorem dX9_isIn_11 : decode cX9_isIn 11 = .ok (.goto 4, 3) := by decide +kernel
theorem dX9_isIn_14 : decode cX9_isIn 14 = .ok (.iconst 0, 1) := by decide +kernel
theorem dX9_isIn_15 : decode cX9_isIn 15 = .ok (.ireturn, 1) := by decide +kernel
theorem dX9_isFamily_0 : decode cX9_isFamily 0 = .ok (.iload_n 0, 1) := by decide +kernel
theorem dX9_isFamily_1 : decode cX9_isFamily 1 = .ok (.iconst 0, 1) := by decide +kernel
theorem dX9_isFamily_2 : decode cX9_isFamily 2 = .ok (.iconst 3, 1) := by decide +kernel
theorem dX9_isFamily_3 : decode cX9_isFamily 3 = .ok (.invokestatic 96, 3) := by decide +kernel
theorem dX9_isFamily_6 : decode cX9_isFamily 6 = .ok (.ireturn, 1) := by decide +kernel
theorem dX9_isPattern_0 : decode cX9_isPattern 0 = .ok (.iload_n 0, 1) := by decide +kernel
theorem dX9_isPattern_1 : decode cX9_isPattern 1 = .ok (.iconst 0, 1) := by decide +kernel
theorem dX9_isPattern_2 : decode cX9_isPattern 2 = .ok (.iconst 5, 1) := by decide +kernel
theorem dX9_isPattern_3 : decode cX9_isPattern 3 = .ok (.invokestatic 96, 3) := by decide +kernel
theorem dX9_isPattern_6 : decode cX9_isPattern 6 = .ok (.ireturn, 1) := by decide +kernel
theorem dX9_isWeek_0 : decode cX9_isWeek 0 = .ok (.iload_n 0, 1) := by decide +kernel
theorem dX9_isWeek_1 : decode cX9_isWeek 1 = .ok (.iload_n 1, 1) := by decide +kernel
theorem dX9_isWeek_2 : decode cX9_isWeek 2 = .ok (.bipush 51, 2) := by decide +kernel
theorem dX9_isWeek_4 : decode cX9_isWeek 4 = .ok (.invokestatic 96, 3) := by decide +kernel
theorem dX9_isWeek_7 : decode cX9_isWeek 7 = .ok (.ireturn, 1) := by decide +kernel
theorem dX9_hours_0 : decode cX9_hours 0 = .ok (.iload_n 1, 1) := by decide +kernel
theorem dX9_hours_1 : decode cX9_hours 1 = .ok (.invokestatic 100, 3) := by decide +kernel
theorem dX9_hours_4 : decode cX9_hours 4 = .ok (.ifCond .eq 24, 3) := by decide +kernel
theorem dX9_hours_7 : decode cX9_hours 7 = .ok (.iload_n 2, 1) := by decide +kernel
theorem dX9_hours_8 : decode cX9_hours 8 = .ok (.aload_n 0, 1) := by decide +kernel
theorem dX9_hours_9 : decode cX9_hours 9 = .ok (.getfield 104, 3) := by decide +kernel
theorem dX9_hours_12 : decode cX9_hours 12 = .ok (.invokestatic 107, 3) := by decide +kernel
theorem dX9_hours_15 : decode cX9_hours 15 = .ok (.ifCond .eq 13, 3) := by decide +kernel
theorem dX9_hours_18 : decode cX9_hours 18 = .ok (.iload_n 3, 1) := by decide +kernel
theorem dX9_hours_19 : decode cX9_hours 19 = .ok (.iconst 0, 1) := by decide +kernel
theorem dX9_hours_20 : decode cX9_hours 20 = .ok (.bipush 99, 2) := by decide +kernel
theorem dX9_hours_22 : decode cX9_hours 22 = .ok (.invokestatic 96, 3) := by decide +kernel
theorem dX9_hours_25 : decode cX9_hours 25 = .ok (.ifCond .ne 5, 3) := by decide +kernel
theorem dX9_hours_28 : decode cX9_hours 28 = .ok (.iconst 0, 1) := by decide +kernel
theorem dX9_hours_29 : decode cX9_hours 29 = .ok (.ireturn, 1) := by decide +kernel
theorem dX9_hours_30 : decode cX9_hours 30 = .ok (.aload_n 0, 1) := by decide +kernel
theorem dX9_hours_31 : decode cX9_hours 31 = .ok (.getfield 7, 3) := by decide +kernel
theorem dX9_hours_34 : decode cX9_hours 34 = .ok (.bipush 52, 2) := by decide +kernel
theorem dX9_hours_36 : decode cX9_hours 36 = .ok (.iload_n 1, 1) := by decide +kernel
theorem dX9_hours_37 : decode cX9_hours 37 = .ok (.imul, 1) := by decide +kernel
theorem dX9_hours_38 : decode cX9_hours 38 = .ok (.iload_n 2, 1) := by decide +kernel
theorem dX9_hours_39 : decode cX9_hours 39 = .ok (.iadd, 1) := by decide +kernel
theorem dX9_hours_40 : decode cX9_hours 40 = .ok (.iload_n 3, 1) := by decide +kernel
theorem dX9_hours_41 : decode cX9_hours 41 = .ok (.iastore, 1) := by decide +kernel
theorem dX9_hours_42 : decode cX9_hours 42 = .ok (.iconst 1, 1) := by decide +kernel
theorem dX9_hours_43 : decode cX9_hours 43 = .ok (.ireturn, 1) := by decide +kernel
theorem dX9_counts_0 : decode cX9_counts 0 = .ok (.aload_n 0, 1) := by decide +kernel
theorem dX9_counts_1 : decode cX9_counts 1 = .ok (.getfield 28, 3) := by decide +kernel
theorem dX9_counts_4 : decode cX9_counts 4 = .ok (.iload_n 1, 1) := by decide +kernel
theorem dX9_counts_5 : decode cX9_counts 5 = .ok (.iaload, 1) := by decide +kernel
theorem dX9_counts_6 : decode cX9_counts 6 = .ok (.istore_n 2, 1) := by decide +kernel
theorem dX9_counts_7 : decode cX9_counts 7 = .ok (.aload_n 0, 1) := by decide +kernel
theorem dX9_counts_8 : decode cX9_counts 8 = .ok (.getfield 31, 3) := by decide +kernel
theorem dX9_counts_11 : decode cX9_counts 11 = .ok (.iload_n 1, 1) := by decide +kernel
theorem dX9_counts_12 : decode cX9_counts 12 = .ok (.iaload, 1) := by decide +kernel
theorem dX9_counts_13 : decode cX9_counts 13 = .ok (.istore_n 3, 1) := by decide +kernel
theorem dX9_counts_14 : decode cX9_counts 14 = .ok (.iload_n 3, 1) := by decide +kernel
theorem dX9_counts_15 : decode cX9_counts 15 = .ok (.iload_n 3, 1) := by decide +kernel
theorem dX9_counts_16 : decode cX9_counts 16 = .ok (.aload_n 0, 1) := by decide +kernel
theorem dX9_counts_17 : decode cX9_counts 17 = .ok (.getfield 25, 3) := by decide +kernel
theorem dX9_counts_20 : decode cX9_counts 20 = .ok (.iload_n 2, 1) := by decide +kernel
theorem dX9_counts_21 : decode cX9_counts 21 = .ok (.iaload, 1) := by decide +kernel
theorem dX9_counts_22 : decode cX9_counts 22 = .ok (.imul, 1) := by decide +kernel
theorem dX9_counts_23 : decode cX9_counts 23 = .ok (.bipush 99, 2) := by decide +kernel
theorem dX9_counts_25 : decode cX9_counts 25 = .ok (.iadd, 1) := by decide +kernel
theorem dX9_counts_26 : decode cX9_counts 26 = .ok (.bipush 100, 2) := by decide +kernel
theorem dX9_counts_28 : decode cX9_counts 28 = .ok (.idiv, 1) := by decide +kernel
theorem dX9_counts_29 : decode cX9_counts 29 = .ok (.isub, 1) := by decide +kernel
theorem dX9_counts_30 : decode cX9_counts 30 = .ok (.aload_n 0, 1) := by decide +kernel
theorem dX9_counts_31 : decode cX9_counts 31 = .ok (.getfield 31, 3) := by decide +kernel
theorem dX9_counts_34 : decode cX9_counts 34 = .ok (.iload_n 1, 1) := by decide +kernel
theorem dX9_counts_35 : decode cX9_counts 35 = .ok (.iaload, 1) := by decide +kernel
theorem dX9_counts_36 : decode cX9_counts 36 = .ok (.if_icmp .ge 9, 3) := by decide +kernel
theorem dX9_counts_39 : decode cX9_counts 39 = .ok (.iinc 3 1, 3) := by decide +kernel
theorem dX9_counts_42 : decode cX9_counts 42 = .ok (.goto (-28), 3) := by decide +kernel
theorem dX9_counts_45 : decode cX9_counts 45 = .ok (.aload_n 0, 1) := by decide +kernel
theorem dX9_counts_46 : decode cX9_counts 46 = .ok (.getfield 40, 3) := by decide +kernel
theorem dX9_counts_49 : decode cX9_counts 49 = .ok (.iload_n 1, 1) := by decide +kernel
theorem dX9_counts_50 : decode cX9_counts 50 = .ok (.iload_n 3, 1) := by decide +kernel
theorem dX9_counts_51 : decode cX9_counts 51 = .ok (.iastore, 1) := by decide +kernel
theorem dX9_counts_52 : decode cX9_counts 52 = .ok (.aload_n 0, 1) := by decide +kernel
theorem dX9_counts_53 : decode cX9_counts 53 = .ok (.getfield 43, 3) := by decide +kernel
theorem dX9_counts_56 : decode cX9_counts 56 = .ok (.iload_n 1, 1) := by decide +kernel
theorem dX9_counts_57 : decode cX9_counts 57 = .ok (.iload_n 3, 1) := by decide +kernel
theorem dX9_counts_58 : decode cX9_counts 58 = .ok (.aload_n 0, 1) := by decide +kernel
theorem dX9_counts_59 : decode cX9_counts 59 = .ok (.getfield 19, 3) := by decide +kernel
theorem dX9_counts_62 : decode cX9_counts 62 = .ok (.iload_n 2, 1) := by decide +kernel
theorem dX9_counts_63 : decode cX9_counts 63 = .ok (.iaload, 1) := by decide +kernel
theorem dX9_counts_64 : decode cX9_counts 64 = .ok (.imul, 1) := by decide +kernel
theorem dX9_counts_65 : decode cX9_counts 65 = .ok (.iastore, 1) := by decide +kernel
theorem dX9_counts_66 : decode cX9_counts 66 = .ok (.aload_n 0, 1) := by decide +kernel
theorem dX9_counts_67 : decode cX9_counts 67 = .ok (.getfield 46, 3) := by decide +kernel
theorem dX9_counts_70 : decode cX9_counts 70 = .ok (.iload_n 1, 1) := by decide +kernel
theorem dX9_counts_71 : decode cX9_counts 71 = .ok (.iload_n 3, 1) := by decide +kernel
theorem dX9_counts_72 : decode cX9_counts 72 = .ok (.aload_n 0, 1) := by decide +kernel
theorem dX9_counts_73 : decode cX9_counts 73 = .ok (.getfield 22, 3) := by decide +kernel
theorem dX9_counts_76 : decode cX9_counts 76 = .ok (.iload_n 2, 1) := by decide +kernel
theorem dX9_counts_77 : decode cX9_counts 77 = .ok (.iaload, 1) := by decide +kernel
theorem dX9_counts_78 : decode cX9_counts 78 = .ok (.imul, 1) := by decide +kernel
theorem dX9_counts_79 : decode cX9_counts 79 = .ok (.iastore, 1) := by decide +kernel
theorem dX9_counts_80 : decode cX9_counts 80 = .ok (.aload_n 0, 1) := by decide +kernel
theorem dX9_counts_81 : decode cX9_counts 81 = .ok (.getfield 52, 3) := by decide +kernel
theorem dX9_counts_84 : decode cX9_counts 84 = .ok (.iload_n 1, 1) := by decide +kernel
theorem dX9_counts_85 : decode cX9_counts 85 = .ok (.iconst 0, 1) := by decide +kernel
theorem dX9_counts_86 : decode cX9_counts 86 = .ok (.iastore, 1) := by decide +kernel
theorem dX9_counts_87 : decode cX9_counts 87 = .ok (.aload_n 0, 1) := by decide +kernel
theorem dX9_counts_88 : decode cX9_counts 88 = .ok (.getfield 55, 3) := by decide +kernel
theorem dX9_counts_91 : decode cX9_counts 91 = .ok (.iload_n 1, 1) := by decide +kernel
theorem dX9_counts_92 : decode cX9_counts 92 = .ok (.iconst (-1), 1) := by decide +kernel
theorem dX9_counts_93 : decode cX9_counts 93 = .ok (.iastore, 1) := by decide +kernel
theorem dX9_counts_94 : decode cX9_counts 94 = .ok (.return_, 1) := by decide +kernel
theorem dX9_isOpen_0 : decode cX9_isOpen 0 = .ok (.iload_n 1, 1) := by decide +kernel
theorem dX9_isOpen_1 : decode cX9_isOpen 1 = .ok (.iconst 0, 1) := by decide +kernel
theorem dX9_isOpen_2 : decode cX9_isOpen 2 = .ok (.aload_n 0, 1) := by decide +kernel
theorem dX9_isOpen_3 : decode cX9_isOpen 3 = .ok (.getfield 111, 3) := by decide +kernel
theorem dX9_isOpen_6 : decode cX9_isOpen 6 = .ok (.iconst 1, 1) := by decide +kernel
theorem dX9_isOpen_7 : decode cX9_isOpen 7 = .ok (.isub, 1) := by decide +kernel
theorem dX9_isOpen_8 : decode cX9_isOpen 8 = .ok (.invokestatic 96, 3) := by decide +kernel
theorem dX9_isOpen_11 : decode cX9_isOpen 11 = .ok (.ifCond .eq 16, 3) := by decide +kernel
theorem dX9_isOpen_14 : decode cX9_isOpen 14 = .ok (.aload_n 0, 1) := by decide +kernel
theorem dX9_isOpen_15 : decode cX9_isOpen 15 = .ok (.getfield 49, 3) := by decide +kernel
theorem dX9_isOpen_18 : decode cX9_isOpen 18 = .ok (.iload_n 1, 1) := by decide +kernel
theorem dX9_isOpen_19 : decode cX9_isOpen 19 = .ok (.iaload, 1) := by decide +kernel
theorem dX9_isOpen_20 : decode cX9_isOpen 20 = .ok (.ifCond .ne 7, 3) := by decide +kernel
theorem dX9_isOpen_23 : decode cX9_isOpen 23 = .ok (.iconst 1, 1) := by decide +kernel
theorem dX9_isOpen_24 : decode cX9_isOpen 24 = .ok (.goto 4, 3) := by decide +kernel
theorem dX9_isOpen_27 : decode cX9_isOpen 27 = .ok (.iconst 0, 1) := by decide +kernel
theorem dX9_isOpen_28 : decode cX9_isOpen 28 = .ok (.ireturn, 1) := by decide +kernel
theorem dX9_pattern_0 : decode cX9_pattern 0 = .ok (.iload_n 1, 1) := by decide +kernel
theorem dX9_pattern_1 : decode cX9_pattern 1 = .ok (.invokestatic 114, 3) := by decide +kernel
theorem dX9_pattern_4 : decode cX9_pattern 4 = .ok (.ifCond .eq 34, 3) := by decide +kernel
theorem dX9_pattern_7 : decode cX9_pattern 7 = .ok (.iload_n 2, 1) := by decide +kernel
theorem dX9_pattern_8 : decode cX9_pattern 8 = .ok (.iconst 1, 1) := by decide +kernel
theorem dX9_pattern_9 : decode cX9_pattern 9 = .ok (.bipush 30, 2) := by decide +kernel
theorem dX9_pattern_11 : decode cX9_pattern 11 = .ok (.invokestatic 96, 3) := by decide +kernel
theorem dX9_pattern_14 : decode cX9_pattern 14 = .ok (.ifCond .eq 24, 3) := by decide +kernel
theorem dX9_pattern_17 : decode cX9_pattern 17 = .ok (.iload_n 3, 1) := by decide +kernel
theorem dX9_pattern_18 : decode cX9_pattern 18 = .ok (.iconst 0, 1) := by decide +kernel
theorem dX9_pattern_19 : decode cX9_pattern 19 = .ok (.bipush 20, 2) := by decide +kernel
theorem dX9_pattern_21 : decode cX9_pattern 21 = .ok (.invokestatic 96, 3) := by decide +kernel
theorem dX9_pattern_24 : decode cX9_pattern 24 = .ok (.ifCond .eq 14, 3) := by decide +kernel
theorem dX9_pattern_27 : decode cX9_pattern 27 = .ok (.iload 4, 2) := by decide +kernel
theorem dX9_pattern_29 : decode cX9_pattern 29 = .ok (.iconst 0, 1) := by decide +kernel
theorem dX9_pattern_30 : decode cX9_pattern 30 = .ok (.bipush 90, 2) := by decide +kernel
theorem dX9_pattern_32 : decode cX9_pattern 32 = .ok (.invokestatic 96, 3) := by decide +kernel
theorem dX9_pattern_35 : decode cX9_pattern 35 = .ok (.ifCond .ne 5, 3) := by decide +kernel
theorem dX9_pattern_38 : decode cX9_pattern 38 = .ok (.iconst 0, 1) := by decide +kernel
theorem dX9_pattern_39 : decode cX9_pattern 39 = .ok (.ireturn, 1) := by decide +kernel
theorem dX9_pattern_40 : decode cX9_pattern 40 = .ok (.aload_n 0, 1) := by decide +kernel
theorem dX9_pattern_41 : decode cX9_pattern 41 = .ok (.getfield 19, 3) := by decide +kernel
theorem dX9_pattern_44 : decode cX9_pattern 44 = .ok (.iload_n 1, 1) := by decide +kernel
theorem dX9_pattern_45 : decode cX9_pattern 45 = .ok (.iload_n 2, 1) := by decide +kernel
theorem dX9_pattern_46 : decode cX9_pattern 46 = .ok (.iastore, 1) := by decide +kernel
theorem dX9_pattern_47 : decode cX9_pattern 47 = .ok (.aload_n 0, 1) := by decide +kernel
theorem dX9_pattern_48 : decode cX9_pattern 48 = .ok (.getfield 22, 3) := by decide +kernel
theorem dX9_pattern_51 : decode cX9_pattern 51 = .ok (.iload_n 1, 1) := by decide +kernel
theorem dX9_pattern_52 : decode cX9_pattern 52 = .ok (.iload_n 3, 1) := by decide +kernel
theorem dX9_pattern_53 : decode cX9_pattern 53 = .ok (.iastore, 1) := by decide +kernel
theorem dX9_pattern_54 : decode cX9_pattern 54 = .ok (.aload_n 0, 1) := by decide +kernel
theorem dX9_pattern_55 : decode cX9_pattern 55 = .ok (.getfield 25, 3) := by decide +kernel
theorem dX9_pattern_58 : decode cX9_pattern 58 = .ok (.iload_n 1, 1) := by decide +kernel
theorem dX9_pattern_59 : decode cX9_pattern 59 = .ok (.iload 4, 2) := by decide +kernel
theorem dX9_pattern_61 : decode cX9_pattern 61 = .ok (.iastore, 1) := by decide +kernel
theorem dX9_pattern_62 : decode cX9_pattern 62 = .ok (.iconst 0, 1) := by decide +kernel
theorem dX9_pattern_63 : decode cX9_pattern 63 = .ok (.istore 5, 2) := by decide +kernel
theorem dX9_pattern_65 : decode cX9_pattern 65 = .ok (.iload 5, 2) := by decide +kernel
theorem dX9_pattern_67 : decode cX9_pattern 67 = .ok (.aload_n 0, 1) := by decide +kernel
theorem dX9_pattern_68 : decode cX9_pattern 68 = .ok (.getfield 111, 3) := by decide +kernel
theorem dX9_pattern_71 : decode cX9_pattern 71 = .ok (.if_icmp .ge 35, 3) := by decide +kernel
theorem dX9_pattern_74 : decode cX9_pattern 74 = .ok (.aload_n 0, 1) := by decide +kernel
theorem dX9_pattern_75 : decode cX9_pattern 75 = .ok (.iload 5, 2) := by decide +kernel
theorem dX9_pattern_77 : decode cX9_pattern 77 = .ok (.invokevirtual 117, 3) := by decide +kernel
theorem dX9_pattern_80 : decode cX9_pattern 80 = .ok (.ifCond .eq 20, 3) := by decide +kernel
theorem dX9_pattern_83 : decode cX9_pattern 83 = .ok (.aload_n 0, 1) := by decide +kernel
theorem dX9_pattern_84 : decode cX9_pattern 84 = .ok (.getfield 28, 3) := by decide +kernel
theorem dX9_pattern_87 : decode cX9_pattern 87 = .ok (.iload 5, 2) := by decide +kernel
theorem dX9_pattern_89 : decode cX9_pattern 89 = .ok (.iaload, 1) := by decide +kernel
theorem dX9_pattern_90 : decode cX9_pattern 90 = .ok (.iload_n 1, 1) := by decide +kernel
theorem dX9_pattern_91 : decode cX9_pattern 91 = .ok (.if_icmp .ne 9, 3) := by decide +kernel
theorem dX9_pattern_94 : decode cX9_pattern 94 = .ok (.aload_n 0, 1) := by decide +kernel
theorem dX9_pattern_95 : decode cX9_pattern 95 = .ok (.iload 5, 2) := by decide +kernel
theorem dX9_pattern_97 : decode cX9_pattern 97 = .ok (.invokevirtual 120, 3) := by decide +kernel
theorem dX9_pattern_100 : decode cX9_pattern 100 = .ok (.iinc 5 1, 3) := by decide +kernel
theorem dX9_pattern_103 : decode cX9_pattern 103 = .ok (.goto (-38), 3) := by decide +kernel
theorem dX9_pattern_106 : decode cX9_pattern 106 = .ok (.iconst 1, 1) := by decide +kernel
theorem dX9_pattern_107 : decode cX9_pattern 107 = .ok (.ireturn, 1) := by decide +kernel
theorem dX9_lend_0 : decode cX9_lend 0 = .ok (.iload_n 1, 1) := by decide +kernel
theorem dX9_lend_1 : decode cX9_lend 1 = .ok (.invokestatic 100, 3) := by decide +kernel
theorem dX9_lend_4 : decode cX9_lend 4 = .ok (.ifCond .eq 27, 3) := by decide +kernel
theorem dX9_lend_7 : decode cX9_lend 7 = .ok (.iload_n 2, 1) := by decide +kernel
theorem dX9_lend_8 : decode cX9_lend 8 = .ok (.iconst 1, 1) := by decide +kernel
theorem dX9_lend_9 : decode cX9_lend 9 = .ok (.sipush 9999, 3) := by decide +kernel
theorem dX9_lend_12 : decode cX9_lend 12 = .ok (.invokestatic 96, 3) := by decide +kernel
theorem dX9_lend_15 : decode cX9_lend 15 = .ok (.ifCond .eq 16, 3) := by decide +kernel
theorem dX9_lend_18 : decode cX9_lend 18 = .ok (.aload_n 0, 1) := by decide +kernel
theorem dX9_lend_19 : decode cX9_lend 19 = .ok (.getfield 13, 3) := by decide +kernel
theorem dX9_lend_22 : decode cX9_lend 22 = .ok (.iload_n 1, 1) := by decide +kernel
theorem dX9_lend_23 : decode cX9_lend 23 = .ok (.iaload, 1) := by decide +kernel
theorem dX9_lend_24 : decode cX9_lend 24 = .ok (.iload_n 2, 1) := by decide +kernel
theorem dX9_lend_25 : decode cX9_lend 25 = .ok (.iadd, 1) := by decide +kernel
theorem dX9_lend_26 : decode cX9_lend 26 = .ok (.ldc 124, 2) := by decide +kernel
theorem dX9_lend_28 : decode cX9_lend 28 = .ok (.if_icmp .le 5, 3) := by decide +kernel
theorem dX9_lend_31 : decode cX9_lend 31 = .ok (.iconst 0, 1) := by decide +kernel
theorem dX9_lend_32 : decode cX9_lend 32 = .ok (.ireturn, 1) := by decide +kernel
theorem dX9_lend_33 : decode cX9_lend 33 = .ok (.aload_n 0, 1) := by decide +kernel
theorem dX9_lend_34 : decode cX9_lend 34 = .ok (.getfield 13, 3) := by decide +kernel
theorem dX9_lend_37 : decode cX9_lend 37 = .ok (.iload_n 1, 1) := by decide +kernel
theorem dX9_lend_38 : decode cX9_lend 38 = .ok (.dup2, 1) := by decide +kernel
theorem dX9_lend_39 : decode cX9_lend 39 = .ok (.iaload, 1) := by decide +kernel
theorem dX9_lend_40 : decode cX9_lend 40 = .ok (.iload_n 2, 1) := by decide +kernel
theorem dX9_lend_41 : decode cX9_lend 41 = .ok (.iadd, 1) := by decide +kernel
theorem dX9_lend_42 : decode cX9_lend 42 = .ok (.iastore, 1) := by decide +kernel
theorem dX9_lend_43 : decode cX9_lend 43 = .ok (.iconst 1, 1) := by decide +kernel
theorem dX9_lend_44 : decode cX9_lend 44 = .ok (.ireturn, 1) := by decide +kernel
theorem dX9_bring_0 : decode cX9_bring 0 = .ok (.iload_n 1, 1) := by decide +kernel
theorem dX9_bring_1 : decode cX9_bring 1 = .ok (.invokestatic 100, 3) := by decide +kernel
theorem dX9_bring_4 : decode cX9_bring 4 = .ok (.ifCond .ne 5, 3) := by decide +kernel
theorem dX9_bring_7 : decode cX9_bring 7 = .ok (.iconst (-1), 1) := by decide +kernel
theorem dX9_bring_8 : decode cX9_bring 8 = .ok (.ireturn, 1) := by decide +kernel
theorem dX9_bring_9 : decode cX9_bring 9 = .ok (.aload_n 0, 1) := by decide +kernel
theorem dX9_bring_10 : decode cX9_bring 10 = .ok (.getfield 13, 3) := by decide +kernel
theorem dX9_bring_13 : decode cX9_bring 13 = .ok (.iload_n 1, 1) := by decide +kernel
theorem dX9_bring_14 : decode cX9_bring 14 = .ok (.iaload, 1) := by decide +kernel
theorem dX9_bring_15 : decode cX9_bring 15 = .ok (.istore_n 2, 1) := by decide +kernel
theorem dX9_bring_16 : decode cX9_bring 16 = .ok (.aload_n 0, 1) := by decide +kernel
theorem dX9_bring_17 : decode cX9_bring 17 = .ok (.getfield 13, 3) := by decide +kernel
theorem dX9_bring_20 : decode cX9_bring 20 = .ok (.iload_n 1, 1) := by decide +kernel
theorem dX9_bring_21 : decode cX9_bring 21 = .ok (.iconst 0, 1) := by decide +kernel
theorem dX9_bring_22 : decode cX9_bring 22 = .ok (.iastore, 1) := by decide +kernel
theorem dX9_bring_23 : decode cX9_bring 23 = .ok (.iload_n 2, 1) := by decide +kernel
theorem dX9_bring_24 : decode cX9_bring 24 = .ok (.ireturn, 1) := by decide +kernel
theorem dX9_order_0 : decode cX9_order 0 = .ok (.iload_n 1, 1) := by decide +kernel
theorem dX9_order_1 : decode cX9_order 1 = .ok (.invokestatic 114, 3) := by decide +kernel
theorem dX9_order_4 : decode cX9_order 4 = .ok (.ifCond .eq 45, 3) := by decide +kernel
theorem dX9_order_7 : decode cX9_order 7 = .ok (.iload_n 2, 1) := by decide +kernel
theorem dX9_order_8 : decode cX9_order 8 = .ok (.iconst 1, 1) := by decide +kernel
theorem dX9_order_9 : decode cX9_order 9 = .ok (.bipush 20, 2) := by decide +kernel
theorem dX9_order_11 : decode cX9_order 11 = .ok (.invokestatic 96, 3) := by decide +kernel
theorem dX9_order_14 : decode cX9_order 14 = .ok (.ifCond .eq 35, 3) := by decide +kernel
theorem dX9_order_17 : decode cX9_order 17 = .ok (.iload_n 3, 1) := by decide +kernel
theorem dX9_order_18 : decode cX9_order 18 = .ok (.aload_n 0, 1) := by decide +kernel
theorem dX9_order_19 : decode cX9_order 19 = .ok (.getfield 104, 3) := by decide +kernel
theorem dX9_order_22 : decode cX9_order 22 = .ok (.invokestatic 107, 3) := by decide +kernel
theorem dX9_order_25 : decode cX9_order 25 = .ok (.ifCond .eq 24, 3) := by decide +kernel
theorem dX9_order_28 : decode cX9_order 28 = .ok (.iload 4, 2) := by decide +kernel
theorem dX9_order_30 : decode cX9_order 30 = .ok (.iconst 1, 1) := by decide +kernel
theorem dX9_order_31 : decode cX9_order 31 = .ok (.sipush 9999, 3) := by decide +kernel
theorem dX9_order_34 : decode cX9_order 34 = .ok (.invokestatic 96, 3) := by decide +kernel
theorem dX9_order_37 : decode cX9_order 37 = .ok (.ifCond .eq 12, 3) := by decide +kernel
theorem dX9_order_40 : decode cX9_order 40 = .ok (.aload_n 0, 1) := by decide +kernel
theorem dX9_order_41 : decode cX9_order 41 = .ok (.getfield 111, 3) := by decide +kernel
theorem dX9_order_44 : decode cX9_order 44 = .ok (.bipush 7, 2) := by decide +kernel
theorem dX9_order_46 : decode cX9_order 46 = .ok (.if_icmp .ne 5, 3) := by decide +kernel
theorem dX9_order_49 : decode cX9_order 49 = .ok (.iconst (-1), 1) := by decide +kernel
theorem dX9_order_50 : decode cX9_order 50 = .ok (.ireturn, 1) := by decide +kernel
theorem dX9_order_51 : decode cX9_order 51 = .ok (.aload_n 0, 1) := by decide +kernel
theorem dX9_order_52 : decode cX9_order 52 = .ok (.getfield 111, 3) := by decide +kernel
theorem dX9_order_55 : decode cX9_order 55 = .ok (.istore 5, 2) := by decide +kernel
theorem dX9_order_57 : decode cX9_order 57 = .ok (.aload_n 0, 1) := by decide +kernel
theorem dX9_order_58 : decode cX9_order 58 = .ok (.dup, 1) := by decide +kernel
theorem dX9_order_59 : decode cX9_order 59 = .ok (.getfield 111, 3) := by decide +kernel
theorem dX9_order_62 : decode cX9_order 62 = .ok (.iconst 1, 1) := by decide +kernel
theorem dX9_order_63 : decode cX9_order 63 = .ok (.iadd, 1) := by decide +kernel
theorem dX9_order_64 : decode cX9_order 64 = .ok (.putfield 111, 3) := by decide +kernel
theorem dX9_order_67 : decode cX9_order 67 = .ok (.aload_n 0, 1) := by decide +kernel
theorem dX9_order_68 : decode cX9_order 68 = .ok (.getfield 28, 3) := by decide +kernel
theorem dX9_order_71 : decode cX9_order 71 = .ok (.iload 5, 2) := by decide +kernel
theorem dX9_order_73 : decode cX9_order 73 = .ok (.iload_n 1, 1) := by decide +kernel
theorem dX9_order_74 : decode cX9_order 74 = .ok (.iastore, 1) := by decide +kernel
theorem dX9_order_75 : decode cX9_order 75 = .ok (.aload_n 0, 1) := by decide +kernel
theorem dX9_order_76 : decode cX9_order 76 = .ok (.getfield 31, 3) := by decide +kernel
theorem dX9_order_79 : decode cX9_order 79 = .ok (.iload 5, 2) := by decide +kernel
theorem dX9_order_81 : decode cX9_order 81 = .ok (.iload_n 2, 1) := by decide +kernel
theorem dX9_order_82 : decode cX9_order 82 = .ok (.iastore, 1) := by decide +kernel
theorem dX9_order_83 : decode cX9_order 83 = .ok (.aload_n 0, 1) := by decide +kernel
theorem dX9_order_84 : decode cX9_order 84 = .ok (.getfield 34, 3) := by decide +kernel
theorem dX9_order_87 : decode cX9_order 87 = .ok (.iload 5, 2) := by decide +kernel
theorem dX9_order_89 : decode cX9_order 89 = .ok (.iload_n 3, 1) := by decide +kernel
theorem dX9_order_90 : decode cX9_order 90 = .ok (.iastore, 1) := by decide +kernel
theorem dX9_order_91 : decode cX9_order 91 = .ok (.aload_n 0, 1) := by decide +kernel
theorem dX9_order_92 : decode cX9_order 92 = .ok (.getfield 37, 3) := by decide +kernel
theorem dX9_order_95 : decode cX9_order 95 = .ok (.iload 5, 2) := by decide +kernel
theorem dX9_order_97 : decode cX9_order 97 = .ok (.iload 4, 2) := by decide +kernel
theorem dX9_order_99 : decode cX9_order 99 = .ok (.iastore, 1) := by decide +kernel
theorem dX9_order_100 : decode cX9_order 100 = .ok (.aload_n 0, 1) := by decide +kernel
theorem dX9_order_101 : decode cX9_order 101 = .ok (.getfield 49, 3) := by decide +kernel
theorem dX9_order_104 : decode cX9_order 104 = .ok (.iload 5, 2) := by decide +kernel
theorem dX9_order_106 : decode cX9_order 106 = .ok (.iconst 0, 1) := by decide +kernel
theorem dX9_order_107 : decode cX9_order 107 = .ok (.iastore, 1) := by decide +kernel
theorem dX9_order_108 : decode cX9_order 108 = .ok (.aload_n 0, 1) := by decide +kernel
theorem dX9_order_109 : decode cX9_order 109 = .ok (.iload 5, 2) := by decide +kernel
theorem dX9_order_111 : decode cX9_order 111 = .ok (.invokevirtual 120, 3) := by decide +kernel
theorem dX9_order_114 : decode cX9_order 114 = .ok (.iload 5, 2) := by decide +kernel
theorem dX9_order_116 : decode cX9_order 116 = .ok (.ireturn, 1) := by decide +kernel
theorem dX9_drop_0 : decode cX9_drop 0 = .ok (.aload_n 0, 1) := by decide +kernel
theorem dX9_drop_1 : decode cX9_drop 1 = .ok (.iload_n 1, 1) := by decide +kernel
theorem dX9_drop_2 : decode cX9_drop 2 = .ok (.invokevirtual 117, 3) := by decide +kernel
theorem dX9_drop_5 : decode cX9_drop 5 = .ok (.ifCond .ne 5, 3) := by decide +kernel
theorem dX9_drop_8 : decode cX9_drop 8 = .ok (.iconst 0, 1) := by decide +kernel
theorem dX9_drop_9 : decode cX9_drop 9 = .ok (.ireturn, 1) := by decide +kernel
theorem dX9_drop_10 : decode cX9_drop 10 = .ok (.aload_n 0, 1) := by decide +kernel
theorem dX9_drop_11 : decode cX9_drop 11 = .ok (.getfield 49, 3) := by decide +kernel
theorem dX9_drop_14 : decode cX9_drop 14 = .ok (.iload_n 1, 1) := by decide +kernel
theorem dX9_drop_15 : decode cX9_drop 15 = .ok (.iconst 2, 1) := by decide +kernel
theorem dX9_drop_16 : decode cX9_drop 16 = .ok (.iastore, 1) := by decide +kernel
theorem dX9_drop_17 : decode cX9_drop 17 = .ok (.iconst 1, 1) := by decide +kernel
theorem dX9_drop_18 : decode cX9_drop 18 = .ok (.ireturn, 1) := by decide +kernel
theorem dX9_feed_0 : decode cX9_feed 0 = .ok (.aload_n 0, 1) := by decide +kernel
theorem dX9_feed_1 : decode cX9_feed 1 = .ok (.getfield 125, 3) := by decide +kernel
theorem dX9_feed_4 : decode cX9_feed 4 = .ok (.bipush 20, 2) := by decide +kernel
theorem dX9_feed_6 : decode cX9_feed 6 = .ok (.iadd, 1) := by decide +kernel
theorem dX9_feed_7 : decode cX9_feed 7 = .ok (.sipush 500, 3) := by decide +kernel
theorem dX9_feed_10 : decode cX9_feed 10 = .ok (.if_icmp .le 5, 3) := by decide +kernel
theorem dX9_feed_13 : decode cX9_feed 13 = .ok (.iconst (-1), 1) := by decide +kernel
theorem dX9_feed_14 : decode cX9_feed 14 = .ok (.ireturn, 1) := by decide +kernel
theorem dX9_feed_15 : decode cX9_feed 15 = .ok (.iconst 0, 1) := by decide +kernel
theorem dX9_feed_16 : decode cX9_feed 16 = .ok (.istore 6, 2) := by decide +kernel
theorem dX9_feed_18 : decode cX9_feed 18 = .ok (.iload 6, 2) := by decide +kernel
theorem dX9_feed_20 : decode cX9_feed 20 = .ok (.bipush 20, 2) := by decide +kernel
theorem dX9_feed_22 : decode cX9_feed 22 = .ok (.if_icmp .ge 93, 3) := by decide +kernel
theorem dX9_feed_25 : decode cX9_feed 25 = .ok (.iload 6, 2) := by decide +kernel
theorem dX9_feed_27 : decode cX9_feed 27 = .ok (.iconst 4, 1) := by decide +kernel
theorem dX9_feed_28 : decode cX9_feed 28 = .ok (.if_icmp .ge 7, 3) := by decide +kernel
theorem dX9_feed_31 : decode cX9_feed 31 = .ok (.iload_n 1, 1) := by decide +kernel
theorem dX9_feed_32 : decode cX9_feed 32 = .ok (.goto 39, 3) := by decide +kernel
theorem dX9_feed_35 : decode cX9_feed 35 = .ok (.iload 6, 2) := by decide +kernel
theorem dX9_feed_37 : decode cX9_feed 37 = .ok (.bipush 8, 2) := by decide +kernel
theorem dX9_feed_39 : decode cX9_feed 39 = .ok (.if_icmp .ge 7, 3) := by decide +kernel
theorem dX9_feed_42 : decode cX9_feed 42 = .ok (.iload_n 2, 1) := by decide +kernel
theorem dX9_feed_43 : decode cX9_feed 43 = .ok (.goto 28, 3) := by decide +kernel
theorem dX9_feed_46 : decode cX9_feed 46 = .ok (.iload 6, 2) := by decide +kernel
theorem dX9_feed_48 : decode cX9_feed 48 = .ok (.bipush 12, 2) := by decide +kernel
theorem dX9_feed_50 : decode cX9_feed 50 = .ok (.if_icmp .ge 7, 3) := by decide +kernel
theorem dX9_feed_53 : decode cX9_feed 53 = .ok (.iload_n 3, 1) := by decide +kernel
theorem dX9_feed_54 : decode cX9_feed 54 = .ok (.goto 17, 3) := by decide +kernel
theorem dX9_feed_57 : decode cX9_feed 57 = .ok (.iload 6, 2) := by decide +kernel
theorem dX9_feed_59 : decode cX9_feed 59 = .ok (.bipush 16, 2) := by decide +kernel
theorem dX9_feed_61 : decode cX9_feed 61 = .ok (.if_icmp .ge 8, 3) := by decide +kernel
theorem dX9_feed_64 : decode cX9_feed 64 = .ok (.iload 4, 2) := by decide +kernel
theorem dX9_feed_66 : decode cX9_feed 66 = .ok (.goto 5, 3) := by decide +kernel
theorem dX9_feed_69 : decode cX9_feed 69 = .ok (.iload 5, 2) := by decide +kernel
theorem dX9_feed_71 : decode cX9_feed 71 = .ok (.istore 7, 2) := by decide +kernel
theorem dX9_feed_73 : decode cX9_feed 73 = .ok (.aload_n 0, 1) := by decide +kernel
theorem dX9_feed_74 : decode cX9_feed 74 = .ok (.getfield 68, 3) := by decide +kernel
theorem dX9_feed_77 : decode cX9_feed 77 = .ok (.aload_n 0, 1) := by decide +kernel
theorem dX9_feed_78 : decode cX9_feed 78 = .ok (.getfield 125, 3) := by decide +kernel
theorem dX9_feed_81 : decode cX9_feed 81 = .ok (.iload 7, 2) := by decide +kernel
theorem dX9_feed_83 : decode cX9_feed 83 = .ok (.bipush 24, 2) := by decide +kernel
theorem dX9_feed_85 : decode cX9_feed 85 = .ok (.bipush 8, 2) := by decide +kernel
theorem dX9_feed_87 : decode cX9_feed 87 = .ok (.iload 6, 2) := by decide +kernel
theorem dX9_feed_89 : decode cX9_feed 89 = .ok (.iconst 4, 1) := by decide +kernel
theorem dX9_feed_90 : decode cX9_feed 90 = .ok (.irem, 1) := by decide +kernel
theorem dX9_feed_91 : decode cX9_feed 91 = .ok (.imul, 1) := by decide +kernel
theorem dX9_feed_92 : decode cX9_feed 92 = .ok (.isub, 1) := by decide +kernel
theorem dX9_feed_93 : decode cX9_feed 93 = .ok (.ishr, 1) := by decide +kernel
theorem dX9_feed_94 : decode cX9_feed 94 = .ok (.sipush 255, 3) := by decide +kernel
theorem dX9_feed_97 : decode cX9_feed 97 = .ok (.iand, 1) := by decide +kernel
theorem dX9_feed_98 : decode cX9_feed 98 = .ok (.iastore, 1) := by decide +kernel
theorem dX9_feed_99 : decode cX9_feed 99 = .ok (.aload_n 0, 1) := by decide +kernel
theorem dX9_feed_100 : decode cX9_feed 100 = .ok (.dup, 1) := by decide +kernel
theorem dX9_feed_101 : decode cX9_feed 101 = .ok (.getfield 125, 3) := by decide +kernel
theorem dX9_feed_104 : decode cX9_feed 104 = .ok (.iconst 1, 1) := by decide +kernel
theorem dX9_feed_105 : decode cX9_feed 105 = .ok (.iadd, 1) := by decide +kernel
theorem dX9_feed_106 : decode cX9_feed 106 = .ok (.putfield 125, 3) := by decide +kernel
theorem dX9_feed_109 : decode cX9_feed 109 = .ok (.iinc 6 1, 3) := by decide +kernel
theorem dX9_feed_112 : decode cX9_feed 112 = .ok (.goto (-94), 3) := by decide +kernel
theorem dX9_feed_115 : decode cX9_feed 115 = .ok (.aload_n 0, 1) := by decide +kernel
theorem dX9_feed_116 : decode cX9_feed 116 = .ok (.getfield 125, 3) := by decide +kernel
theorem dX9_feed_119 : decode cX9_feed 119 = .ok (.ireturn, 1) := by decide +kernel
theorem dX9_end_0 : decode cX9_end 0 = .ok (.iload_n 1, 1) := by decide +kernel
theorem dX9_end_1 : decode cX9_end 1 = .ok (.iconst 0, 1) := by decide +kernel
theorem dX9_end_2 : decode cX9_end 2 = .ok (.aload_n 0, 1) := by decide +kernel
theorem dX9_end_3 : decode cX9_end 3 = .ok (.getfield 125, 3) := by decide +kernel
theorem dX9_end_6 : decode cX9_end 6 = .ok (.invokestatic 96, 3) := by decide +kernel
theorem dX9_end_9 : decode cX9_end 9 = .ok (.ifCond .ne 5, 3) := by decide +kernel
theorem dX9_end_12 : decode cX9_end 12 = .ok (.iconst 0, 1) := by decide +kernel
theorem dX9_end_13 : decode cX9_end 13 = .ok (.ireturn, 1) := by decide +kernel
theorem dX9_end_14 : decode cX9_end 14 = .ok (.aload_n 0, 1) := by decide +kernel
theorem dX9_end_15 : decode cX9_end 15 = .ok (.iload_n 1, 1) := by decide +kernel
theorem dX9_end_16 : decode cX9_end 16 = .ok (.putfield 125, 3) := by decide +kernel
theorem dX9_end_19 : decode cX9_end 19 = .ok (.iconst 1, 1) := by decide +kernel
theorem dX9_end_20 : decode cX9_end 20 = .ok (.ireturn, 1) := by decide +kernel
theorem dX9_see_0 : decode cX9_see 0 = .ok (.iload_n 1, 1) := by decide +kernel
theorem dX9_see_1 : decode cX9_see 1 = .ok (.aload_n 0, 1) := by decide +kernel
theorem dX9_see_2 : decode cX9_see 2 = .ok (.getfield 125, 3) := by decide +kernel
theorem dX9_see_5 : decode cX9_see 5 = .ok (.if_icmp .ge 12, 3) := by decide +kernel
theorem dX9_see_8 : decode cX9_see 8 = .ok (.aload_n 0, 1) := by decide +kernel
theorem dX9_see_9 : decode cX9_see 9 = .ok (.getfield 68, 3) := by decide +kernel
theorem dX9_see_12 : decode cX9_see 12 = .ok (.iload_n 1, 1) := by decide +kernel
theorem dX9_see_13 : decode cX9_see 13 = .ok (.iaload, 1) := by decide +kernel
theorem dX9_see_14 : decode cX9_see 14 = .ok (.goto 4, 3) := by decide +kernel
theorem dX9_see_17 : decode cX9_see 17 = .ok (.iconst (-1), 1) := by decide +kernel
theorem dX9_see_18 : decode cX9_see 18 = .ok (.ireturn, 1) := by decide +kernel
theorem dX9_isLetter_0 : decode cX9_isLetter 0 = .ok (.iload_n 0, 1) := by decide +kernel
theorem dX9_isLetter_1 : decode cX9_isLetter 1 = .ok (.bipush 97, 2) := by decide +kernel
theorem dX9_isLetter_3 : decode cX9_isLetter 3 = .ok (.bipush 122, 2) := by decide +kernel
theorem dX9_isLetter_5 : decode cX9_isLetter 5 = .ok (.invokestatic 96, 3) := by decide +kernel
theorem dX9_isLetter_8 : decode cX9_isLetter 8 = .ok (.ifCond .ne 14, 3) := by decide +kernel
theorem dX9_isLetter_11 : decode cX9_isLetter 11 = .ok (.iload_n 0, 1) := by decide +kernel
theorem dX9_isLetter_12 : decode cX9_isLetter 12 = .ok (.bipush 65, 2) := by decide +kernel
theorem dX9_isLetter_14 : decode cX9_isLetter 14 = .ok (.bipush 90, 2) := by decide +kernel
theorem dX9_isLetter_16 : decode cX9_isLetter 16 = .ok (.invokestatic 96, 3) := by decide +kernel
theorem dX9_isLetter_19 : decode cX9_isLetter 19 = .ok (.ifCond .eq 7, 3) := by decide +kernel
theorem dX9_isLetter_22 : decode cX9_isLetter 22 = .ok (.iconst 1, 1) := by decide +kernel
theorem dX9_isLetter_23 : decode cX9_isLetter 23 = .ok (.goto 4, 3) := by decide +kernel
theorem dX9_isLetter_26 : decode cX9_isLetter 26 = .ok (.iconst 0, 1) := by decide +kernel
theorem dX9_isLetter_27 : decode cX9_isLetter 27 = .ok (.ireturn, 1) := by decide +kernel
theorem dX9_isDigit_0 : decode cX9_isDigit 0 = .ok (.iload_n 0, 1) := by decide +kernel
theorem dX9_isDigit_1 : decode cX9_isDigit 1 = .ok (.bipush 48, 2) := by decide +kernel
theorem dX9_isDigit_3 : decode cX9_isDigit 3 = .ok (.bipush 57, 2) := by decide +kernel
theorem dX9_isDigit_5 : decode cX9_isDigit 5 = .ok (.invokestatic 96, 3) := by decide +kernel
theorem dX9_isDigit_8 : decode cX9_isDigit 8 = .ok (.ireturn, 1) := by decide +kernel
theorem dX9_word_0 : decode cX9_word 0 = .ok (.lload_n 0, 1) := by decide +kernel
theorem dX9_word_1 : decode cX9_word 1 = .ok (.ldc2_w 128, 3) := by decide +kernel
theorem dX9_word_4 : decode cX9_word 4 = .ok (.lcmp, 1) := by decide +kernel
theorem dX9_word_5 : decode cX9_word 5 = .ok (.ifCond .ne 5, 3) := by decide +kernel
theorem dX9_word_8 : decode cX9_word 8 = .ok (.iconst 3, 1) := by decide +kernel
theorem dX9_word_9 : decode cX9_word 9 = .ok (.ireturn, 1) := by decide +kernel
theorem dX9_word_10 : decode cX9_word 10 = .ok (.lload_n 0, 1) := by decide +kernel
theorem dX9_word_11 : decode cX9_word 11 = .ok (.ldc2_w 130, 3) := by decide +kernel
theorem dX9_word_14 : decode cX9_word 14 = .ok (.lcmp, 1) := by decide +kernel
theorem dX9_word_15 : decode cX9_word 15 = .ok (.ifCond .ne 5, 3) := by decide +kernel
theorem dX9_word_18 : decode cX9_word 18 = .ok (.iconst 4, 1) := by decide +kernel
theorem dX9_word_19 : decode cX9_word 19 = .ok (.ireturn, 1) := by decide +kernel
theorem dX9_word_20 : decode cX9_word 20 = .ok (.lload_n 0, 1) := by decide +kernel
theorem dX9_word_21 : decode cX9_word 21 = .ok (.ldc2_w 132, 3) := by decide +kernel
theorem dX9_word_24 : decode cX9_word 24 = .ok (.lcmp, 1) := by decide +kernel
theorem dX9_word_25 : decode cX9_word 25 = .ok (.ifCond .ne 5, 3) := by decide +kernel
theorem dX9_word_28 : decode cX9_word 28 = .ok (.iconst 5, 1) := by decide +kernel
theorem dX9_word_29 : decode cX9_word 29 = .ok (.ireturn, 1) := by decide +kernel
theorem dX9_word_30 : decode cX9_word 30 = .ok (.lload_n 0, 1) := by decide +kernel
theorem dX9_word_31 : decode cX9_word 31 = .ok (.ldc2_w 134, 3) := by decide +kernel
theorem dX9_word_34 : decode cX9_word 34 = .ok (.lcmp, 1) := by decide +kernel
theorem dX9_word_35 : decode cX9_word 35 = .ok (.ifCond .ne 6, 3) := by decide +kernel
theorem dX9_word_38 : decode cX9_word 38 = .ok (.bipush 6, 2) := by decide +kernel
theorem dX9_word_40 : decode cX9_word 40 = .ok (.ireturn, 1) := by decide +kernel
theorem dX9_word_41 : decode cX9_word 41 = .ok (.lload_n 0, 1) := by decide +kernel
theorem dX9_word_42 : decode cX9_word 42 = .ok (.ldc2_w 136, 3) := by decide +kernel
theorem dX9_word_45 : decode cX9_word 45 = .ok (.lcmp, 1) := by decide +kernel
theorem dX9_word_46 : decode cX9_word 46 = .ok (.ifCond .ne 6, 3) := by decide +kernel
theorem dX9_word_49 : decode cX9_word 49 = .ok (.bipush 7, 2) := by decide +kernel
theorem dX9_word_51 : decode cX9_word 51 = .ok (.ireturn, 1) := by decide +kernel
theorem dX9_word_52 : decode cX9_word 52 = .ok (.lload_n 0, 1) := by decide +kernel
theorem dX9_word_53 : decode cX9_word 53 = .ok (.ldc2_w 138, 3) := by decide +kernel
theorem dX9_word_56 : decode cX9_word 56 = .ok (.lcmp, 1) := by decide +kernel
theorem dX9_word_57 : decode cX9_word 57 = .ok (.ifCond .ne 6, 3) := by decide +kernel
theorem dX9_word_60 : decode cX9_word 60 = .ok (.bipush 8, 2) := by decide +kernel
theorem dX9_word_62 : decode cX9_word 62 = .ok (.ireturn, 1) := by decide +kernel
theorem dX9_word_63 : decode cX9_word 63 = .ok (.lload_n 0, 1) := by decide +kernel
theorem dX9_word_64 : decode cX9_word 64 = .ok (.ldc2_w 140, 3) := by decide +kernel
theorem dX9_word_67 : decode cX9_word 67 = .ok (.lcmp, 1) := by decide +kernel
theorem dX9_word_68 : decode cX9_word 68 = .ok (.ifCond .ne 6, 3) := by decide +kernel
theorem dX9_word_71 : decode cX9_word 71 = .ok (.bipush 9, 2) := by decide +kernel
theorem dX9_word_73 : decode cX9_word 73 = .ok (.ireturn, 1) := by decide +kernel
theorem dX9_word_74 : decode cX9_word 74 = .ok (.lload_n 0, 1) := by decide +kernel
theorem dX9_word_75 : decode cX9_word 75 = .ok (.ldc2_w 142, 3) := by decide +kernel
theorem dX9_word_78 : decode cX9_word 78 = .ok (.lcmp, 1) := by decide +kernel
theorem dX9_word_79 : decode cX9_word 79 = .ok (.ifCond .ne 8, 3) := by decide +kernel
theorem dX9_word_82 : decode cX9_word 82 = .ok (.bipush 10, 2) := by decide +kernel
theorem dX9_word_84 : decode cX9_word 84 = .ok (.goto 4, 3) := by decide +kernel
theorem dX9_word_87 : decode cX9_word 87 = .ok (.iconst 1, 1) := by decide +kernel
theorem dX9_word_88 : decode cX9_word 88 = .ok (.ireturn, 1) := by decide +kernel
theorem dX9_next0_0 : decode cX9_next0 0 = .ok (.aload_n 0, 1) := by decide +kernel
theorem dX9_next0_1 : decode cX9_next0 1 = .ok (.aload_n 0, 1) := by decide +kernel
theorem dX9_next0_2 : decode cX9_next0 2 = .ok (.getfield 144, 3) := by decide +kernel
theorem dX9_next0_5 : decode cX9_next0 5 = .ok (.invokevirtual 147, 3) := by decide +kernel
theorem dX9_next0_8 : decode cX9_next0 8 = .ok (.bipush 32, 2) := by decide +kernel
theorem dX9_next0_10 : decode cX9_next0 10 = .ok (.if_icmp .eq 16, 3) := by decide +kernel
theorem dX9_next0_13 : decode cX9_next0 13 = .ok (.aload_n 0, 1) := by decide +kernel
theorem dX9_next0_14 : decode cX9_next0 14 = .ok (.aload_n 0, 1) := by decide +kernel
theorem dX9_next0_15 : decode cX9_next0 15 = .ok (.getfield 144, 3) := by decide +kernel
theorem dX9_next0_18 : decode cX9_next0 18 = .ok (.invokevirtual 147, 3) := by decide +kernel
theorem dX9_next0_21 : decode cX9_next0 21 = .ok (.bipush 10, 2) := by decide +kernel
theorem dX9_next0_23 : decode cX9_next0 23 = .ok (.if_icmp .ne 16, 3) := by decide +kernel
theorem dX9_next0_26 : decode cX9_next0 26 = .ok (.aload_n 0, 1) := by decide +kernel
theorem dX9_next0_27 : decode cX9_next0 27 = .ok (.dup, 1) := by decide +kernel
theorem dX9_next0_28 : decode cX9_next0 28 = .ok (.getfield 144, 3) := by decide +kernel
theorem dX9_next0_31 : decode cX9_next0 31 = .ok (.iconst 1, 1) := by decide +kernel
theorem dX9_next0_32 : decode cX9_next0 32 = .ok (.iadd, 1) := by decide +kernel
theorem dX9_next0_33 : decode cX9_next0 33 = .ok (.putfield 144, 3) := by decide +kernel
theorem dX9_next0_36 : decode cX9_next0 36 = .ok (.goto (-36), 3) := by decide +kernel
theorem dX9_next0_39 : decode cX9_next0 39 = .ok (.aload_n 0, 1) := by decide +kernel
theorem dX9_next0_40 : decode cX9_next0 40 = .ok (.aload_n 0, 1) := by decide +kernel
theorem dX9_next0_41 : decode cX9_next0 41 = .ok (.getfield 144, 3) := by decide +kernel
theorem dX9_next0_44 : decode cX9_next0 44 = .ok (.putfield 151, 3) := by decide +kernel
theorem dX9_next0_47 : decode cX9_next0 47 = .ok (.aload_n 0, 1) := by decide +kernel
theorem dX9_next0_48 : decode cX9_next0 48 = .ok (.aload_n 0, 1) := by decide +kernel
theorem dX9_next0_49 : decode cX9_next0 49 = .ok (.getfield 144, 3) := by decide +kernel
theorem dX9_next0_52 : decode cX9_next0 52 = .ok (.invokevirtual 147, 3) := by decide +kernel
theorem dX9_next0_55 : decode cX9_next0 55 = .ok (.istore_n 1, 1) := by decide +kernel
theorem dX9_next0_56 : decode cX9_next0 56 = .ok (.iconst 0, 1) := by decide +kernel
theorem dX9_next0_57 : decode cX9_next0 57 = .ok (.istore_n 2, 1) := by decide +kernel
theorem dX9_next0_58 : decode cX9_next0 58 = .ok (.iload_n 1, 1) := by decide +kernel
theorem dX9_next0_59 : decode cX9_next0 59 = .ok (.iconst (-1), 1) := by decide +kernel
theorem dX9_next0_60 : decode cX9_next0 60 = .ok (.if_icmp .ne 11, 3) := by decide +kernel
theorem dX9_next0_63 : decode cX9_next0 63 = .ok (.aload_n 0, 1) := by decide +kernel
theorem dX9_next0_64 : decode cX9_next0 64 = .ok (.iconst 0, 1) := by decide +kernel
theorem dX9_next0_65 : decode cX9_next0 65 = .ok (.putfield 154, 3) := by decide +kernel
theorem dX9_next0_68 : decode cX9_next0 68 = .ok (.goto 196, 3) := by decide +kernel
theorem dX9_next0_71 : decode cX9_next0 71 = .ok (.iload_n 1, 1) := by decide +kernel
theorem dX9_next0_72 : decode cX9_next0 72 = .ok (.invokestatic 157, 3) := by decide +kernel
theorem dX9_next0_75 : decode cX9_next0 75 = .ok (.ifCond .eq 77, 3) := by decide +kernel
theorem dX9_next0_78 : decode cX9_next0 78 = .ok (.lconst 0, 1) := by decide +kernel
theorem dX9_next0_79 : decode cX9_next0 79 = .ok (.lstore_n 3, 1) := by decide +kernel
theorem dX9_next0_80 : decode cX9_next0 80 = .ok (.aload_n 0, 1) := by decide +kernel
theorem dX9_next0_81 : decode cX9_next0 81 = .ok (.aload_n 0, 1) := by decide +kernel
theorem dX9_next0_82 : decode cX9_next0 82 = .ok (.getfield 144, 3) := by decide +kernel
theorem dX9_next0_85 : decode cX9_next0 85 = .ok (.invokevirtual 147, 3) := by decide +kernel
theorem dX9_next0_88 : decode cX9_next0 88 = .ok (.invokestatic 157, 3) := by decide +kernel
theorem dX9_next0_91 : decode cX9_next0 91 = .ok (.ifCond .eq 40, 3) := by decide +kernel
theorem dX9_next0_94 : decode cX9_next0 94 = .ok (.iload_n 2, 1) := by decide +kernel
theorem dX9_next0_95 : decode cX9_next0 95 = .ok (.bipush 6, 2) := by decide +kernel
theorem dX9_next0_97 : decode cX9_next0 97 = .ok (.if_icmp .ge 18, 3) := by decide +kernel
theorem dX9_next0_100 : decode cX9_next0 100 = .ok (.lload_n 3, 1) := by decide +kernel
theorem dX9_next0_101 : decode cX9_next0 101 = .ok (.bipush 8, 2) := by decide +kernel
theorem dX9_next0_103 : decode cX9_next0 103 = .ok (.lshl, 1) := by decide +kernel
theorem dX9_next0_104 : decode cX9_next0 104 = .ok (.aload_n 0, 1) := by decide +kernel
theorem dX9_next0_105 : decode cX9_next0 105 = .ok (.aload_n 0, 1) := by decide +kernel
theorem dX9_next0_106 : decode cX9_next0 106 = .ok (.getfield 144, 3) := by decide +kernel
theorem dX9_next0_109 : decode cX9_next0 109 = .ok (.invokevirtual 147, 3) := by decide +kernel
theorem dX9_next0_112 : decode cX9_next0 112 = .ok (.i2l, 1) := by decide +kernel
theorem dX9_next0_113 : decode cX9_next0 113 = .ok (.lor, 1) := by decide +kernel
theorem dX9_next0_114 : decode cX9_next0 114 = .ok (.lstore_n 3, 1) := by decide +kernel
theorem dX9_next0_115 : decode cX9_next0 115 = .ok (.iinc 2 1, 3) := by decide +kernel
theorem dX9_next0_118 : decode cX9_next0 118 = .ok (.aload_n 0, 1) := by decide +kernel
theorem dX9_next0_119 : decode cX9_next0 119 = .ok (.dup, 1) := by decide +kernel
theorem dX9_next0_120 : decode cX9_next0 120 = .ok (.getfield 144, 3) := by decide +kernel
theorem dX9_next0_123 : decode cX9_next0 123 = .ok (.iconst 1, 1) := by decide +kernel
theorem dX9_next0_124 : decode cX9_next0 124 = .ok (.iadd, 1) := by decide +kernel
theorem dX9_next0_125 : decode cX9_next0 125 = .ok (.putfield 144, 3) := by decide +kernel
theorem dX9_next0_128 : decode cX9_next0 128 = .ok (.goto (-48), 3) := by decide +kernel
theorem dX9_next0_131 : decode cX9_next0 131 = .ok (.aload_n 0, 1) := by decide +kernel
theorem dX9_next0_132 : decode cX9_next0 132 = .ok (.iload_n 2, 1) := by decide +kernel
theorem dX9_next0_133 : decode cX9_next0 133 = .ok (.bipush 6, 2) := by decide +kernel
theorem dX9_next0_135 : decode cX9_next0 135 = .ok (.if_icmp .ge 10, 3) := by decide +kernel
theorem dX9_next0_138 : decode cX9_next0 138 = .ok (.lload_n 3, 1) := by decide +kernel
theorem dX9_next0_139 : decode cX9_next0 139 = .ok (.invokestatic 160, 3) := by decide +kernel
theorem dX9_next0_142 : decode cX9_next0 142 = .ok (.goto 4, 3) := by decide +kernel
theorem dX9_next0_145 : decode cX9_next0 145 = .ok (.iconst 1, 1) := by decide +kernel
theorem dX9_next0_146 : decode cX9_next0 146 = .ok (.putfield 154, 3) := by decide +kernel
theorem dX9_next0_149 : decode cX9_next0 149 = .ok (.goto 115, 3) := by decide +kernel
theorem dX9_next0_152 : decode cX9_next0 152 = .ok (.iload_n 1, 1) := by decide +kernel
theorem dX9_next0_153 : decode cX9_next0 153 = .ok (.invokestatic 164, 3) := by decide +kernel
theorem dX9_next0_156 : decode cX9_next0 156 = .ok (.ifCond .eq 83, 3) := by decide +kernel
theorem dX9_next0_159 : decode cX9_next0 159 = .ok (.aload_n 0, 1) := by decide +kernel
theorem dX9_next0_160 : decode cX9_next0 160 = .ok (.iconst 0, 1) := by decide +kernel
theorem dX9_next0_161 : decode cX9_next0 161 = .ok (.putfield 167, 3) := by decide +kernel
theorem dX9_next0_164 : decode cX9_next0 164 = .ok (.aload_n 0, 1) := by decide +kernel
theorem dX9_next0_165 : decode cX9_next0 165 = .ok (.aload_n 0, 1) := by decide +kernel
theorem dX9_next0_166 : decode cX9_next0 166 = .ok (.getfield 144, 3) := by decide +kernel
theorem dX9_next0_169 : decode cX9_next0 169 = .ok (.invokevirtual 147, 3) := by decide +kernel
theorem dX9_next0_172 : decode cX9_next0 172 = .ok (.invokestatic 164, 3) := by decide +kernel
theorem dX9_next0_175 : decode cX9_next0 175 = .ok (.ifCond .eq 47, 3) := by decide +kernel
theorem dX9_next0_178 : decode cX9_next0 178 = .ok (.iload_n 2, 1) := by decide +kernel
theorem dX9_next0_179 : decode cX9_next0 179 = .ok (.iconst 2, 1) := by decide +kernel
theorem dX9_next0_180 : decode cX9_next0 180 = .ok (.if_icmp .ge 26, 3) := by decide +kernel
theorem dX9_next0_183 : decode cX9_next0 183 = .ok (.aload_n 0, 1) := by decide +kernel
theorem dX9_next0_184 : decode cX9_next0 184 = .ok (.bipush 10, 2) := by decide +kernel
theorem dX9_next0_186 : decode cX9_next0 186 = .ok (.aload_n 0, 1) := by decide +kernel
theorem dX9_next0_187 : decode cX9_next0 187 = .ok (.getfield 167, 3) := by decide +kernel
theorem dX9_next0_190 : decode cX9_next0 190 = .ok (.imul, 1) := by decide +kernel
theorem dX9_next0_191 : decode cX9_next0 191 = .ok (.aload_n 0, 1) := by decide +kernel
theorem dX9_next0_192 : decode cX9_next0 192 = .ok (.aload_n 0, 1) := by decide +kernel
theorem dX9_next0_193 : decode cX9_next0 193 = .ok (.getfield 144, 3) := by decide +kernel
theorem dX9_next0_196 : decode cX9_next0 196 = .ok (.invokevirtual 147, 3) := by decide +kernel
theorem dX9_next0_199 : decode cX9_next0 199 = .ok (.iadd, 1) := by decide +kernel
theorem dX9_next0_200 : decode cX9_next0 200 = .ok (.bipush 48, 2) := by decide +kernel
theorem dX9_next0_202 : decode cX9_next0 202 = .ok (.isub, 1) := by decide +kernel
theorem dX9_next0_203 : decode cX9_next0 203 = .ok (.putfield 167, 3) := by decide +kernel
theorem dX9_next0_206 : decode cX9_next0 206 = .ok (.iinc 2 1, 3) := by decide +kernel
theorem dX9_next0_209 : decode cX9_next0 209 = .ok (.aload_n 0, 1) := by decide +kernel
theorem dX9_next0_210 : decode cX9_next0 210 = .ok (.dup, 1) := by decide +kernel
theorem dX9_next0_211 : decode cX9_next0 211 = .ok (.getfield 144, 3) := by decide +kernel
theorem dX9_next0_214 : decode cX9_next0 214 = .ok (.iconst 1, 1) := by decide +kernel
theorem dX9_next0_215 : decode cX9_next0 215 = .ok (.iadd, 1) := by decide +kernel
theorem dX9_next0_216 : decode cX9_next0 216 = .ok (.putfield 144, 3) := by decide +kernel
theorem dX9_next0_219 : decode cX9_next0 219 = .ok (.goto (-55), 3) := by decide +kernel
theorem dX9_next0_222 : decode cX9_next0 222 = .ok (.aload_n 0, 1) := by decide +kernel
theorem dX9_next0_223 : decode cX9_next0 223 = .ok (.iload_n 2, 1) := by decide +kernel
theorem dX9_next0_224 : decode cX9_next0 224 = .ok (.iconst 3, 1) := by decide +kernel
theorem dX9_next0_225 : decode cX9_next0 225 = .ok (.if_icmp .ge 7, 3) := by decide +kernel
theorem dX9_next0_228 : decode cX9_next0 228 = .ok (.iconst 2, 1) := by decide +kernel
theorem dX9_next0_229 : decode cX9_next0 229 = .ok (.goto 4, 3) := by decide +kernel
theorem dX9_next0_232 : decode cX9_next0 232 = .ok (.iconst 1, 1) := by decide +kernel
theorem dX9_next0_233 : decode cX9_next0 233 = .ok (.putfield 154, 3) := by decide +kernel
theorem dX9_next0_236 : decode cX9_next0 236 = .ok (.goto 28, 3) := by decide +kernel
theorem dX9_next0_239 : decode cX9_next0 239 = .ok (.aload_n 0, 1) := by decide +kernel
theorem dX9_next0_240 : decode cX9_next0 240 = .ok (.dup, 1) := by decide +kernel
theorem dX9_next0_241 : decode cX9_next0 241 = .ok (.getfield 144, 3) := by decide +kernel
theorem dX9_next0_244 : decode cX9_next0 244 = .ok (.iconst 1, 1) := by decide +kernel
theorem dX9_next0_245 : decode cX9_next0 245 = .ok (.iadd, 1) := by decide +kernel
theorem dX9_next0_246 : decode cX9_next0 246 = .ok (.putfield 144, 3) := by decide +kernel
theorem dX9_next0_249 : decode cX9_next0 249 = .ok (.aload_n 0, 1) := by decide +kernel
theorem dX9_next0_250 : decode cX9_next0 250 = .ok (.iload_n 1, 1) := by decide +kernel
theorem dX9_next0_251 : decode cX9_next0 251 = .ok (.bipush 59, 2) := by decide +kernel
theorem dX9_next0_253 : decode cX9_next0 253 = .ok (.if_icmp .ne 7, 3) := by decide +kernel
theorem dX9_next0_256 : decode cX9_next0 256 = .ok (.iload_n 1, 1) := by decide +kernel
theorem dX9_next0_257 : decode cX9_next0 257 = .ok (.goto 4, 3) := by decide +kernel
theorem dX9_next0_260 : decode cX9_next0 260 = .ok (.iconst 1, 1) := by decide +kernel
theorem dX9_next0_261 : decode cX9_next0 261 = .ok (.putfield 154, 3) := by decide +kernel
theorem dX9_next0_264 : decode cX9_next0 264 = .ok (.return_, 1) := by decide +kernel
theorem dX9_bad_0 : decode cX9_bad 0 = .ok (.aload_n 0, 1) := by decide +kernel
theorem dX9_bad_1 : decode cX9_bad 1 = .ok (.iload_n 1, 1) := by decide +kernel
theorem dX9_bad_2 : decode cX9_bad 2 = .ok (.putfield 170, 3) := by decide +kernel
theorem dX9_bad_5 : decode cX9_bad 5 = .ok (.aload_n 0, 1) := by decide +kernel
theorem dX9_bad_6 : decode cX9_bad 6 = .ok (.aload_n 0, 1) := by decide +kernel
theorem dX9_bad_7 : decode cX9_bad 7 = .ok (.getfield 151, 3) := by decide +kernel
theorem dX9_bad_10 : decode cX9_bad 10 = .ok (.putfield 173, 3) := by decide +kernel
theorem dX9_bad_13 : decode cX9_bad 13 = .ok (.iconst 0, 1) := by decide +kernel
theorem dX9_bad_14 : decode cX9_bad 14 = .ok (.ireturn, 1) := by decide +kernel
theorem dX9_need_0 : decode cX9_need 0 = .ok (.aload_n 0, 1) := by decide +kernel
theorem dX9_need_1 : decode cX9_need 1 = .ok (.getfield 154, 3) := by decide +kernel
theorem dX9_need_4 : decode cX9_need 4 = .ok (.iload_n 1, 1) := by decide +kernel
theorem dX9_need_5 : decode cX9_need 5 = .ok (.if_icmp .eq 9, 3) := by decide +kernel
theorem dX9_need_8 : decode cX9_need 8 = .ok (.aload_n 0, 1) := by decide +kernel
theorem dX9_need_9 : decode cX9_need 9 = .ok (.iconst 1, 1) := by decide +kernel
theorem dX9_need_10 : decode cX9_need 10 = .ok (.invokevirtual 176, 3) := by decide +kernel
theorem dX9_need_13 : decode cX9_need 13 = .ok (.ireturn, 1) := by decide +kernel
theorem dX9_need_14 : decode cX9_need 14 = .ok (.aload_n 0, 1) := by decide +kernel
theorem dX9_need_15 : decode cX9_need 15 = .ok (.invokevirtual 179, 3) := by decide +kernel
theorem dX9_need_18 : decode cX9_need 18 = .ok (.iconst 1, 1) := by decide +kernel
theorem dX9_need_19 : decode cX9_need 19 = .ok (.ireturn, 1) := by decide +kernel
theorem dX9_aNumber_0 : decode cX9_aNumber 0 = .ok (.aload_n 0, 1) := by decide +kernel
theorem dX9_aNumber_1 : decode cX9_aNumber 1 = .ok (.getfield 154, 3) := by decide +kernel
theorem dX9_aNumber_4 : decode cX9_aNumber 4 = .ok (.iconst 2, 1) := by decide +kernel
theorem dX9_aNumber_5 : decode cX9_aNumber 5 = .ok (.if_icmp .eq 9, 3) := by decide +kernel
theorem dX9_aNumber_8 : decode cX9_aNumber 8 = .ok (.aload_n 0, 1) := by decide +kernel
theorem dX9_aNumber_9 : decode cX9_aNumber 9 = .ok (.iconst 1, 1) := by decide +kernel
theorem dX9_aNumber_10 : decode cX9_aNumber 10 = .ok (.invokevirtual 176, 3) := by decide +kernel
theorem dX9_aNumber_13 : decode cX9_aNumber 13 = .ok (.ireturn, 1) := by decide +kernel
theorem dX9_aNumber_14 : decode cX9_aNumber 14 = .ok (.aload_n 0, 1) := by decide +kernel
theorem dX9_aNumber_15 : decode cX9_aNumber 15 = .ok (.getfield 167, 3) := by decide +kernel
theorem dX9_aNumber_18 : decode cX9_aNumber 18 = .ok (.iload_n 1, 1) := by decide +kernel
theorem dX9_aNumber_19 : decode cX9_aNumber 19 = .ok (.iload_n 2, 1) := by decide +kernel
theorem dX9_aNumber_20 : decode cX9_aNumber 20 = .ok (.invokestatic 96, 3) := by decide +kernel
theorem dX9_aNumber_23 : decode cX9_aNumber 23 = .ok (.ifCond .ne 9, 3) := by decide +kernel
theorem dX9_aNumber_26 : decode cX9_aNumber 26 = .ok (.aload_n 0, 1) := by decide +kernel
theorem dX9_aNumber_27 : decode cX9_aNumber 27 = .ok (.iconst 2, 1) := by decide +kernel
theorem dX9_aNumber_28 : decode cX9_aNumber 28 = .ok (.invokevirtual 176, 3) := by decide +kernel
theorem dX9_aNumber_31 : decode cX9_aNumber 31 = .ok (.ireturn, 1) := by decide +kernel
theorem dX9_aNumber_32 : decode cX9_aNumber 32 = .ok (.aload_n 0, 1) := by decide +kernel
theorem dX9_aNumber_33 : decode cX9_aNumber 33 = .ok (.aload_n 0, 1) := by decide +kernel
theorem dX9_aNumber_34 : decode cX9_aNumber 34 = .ok (.getfield 167, 3) := by decide +kernel
theorem dX9_aNumber_37 : decode cX9_aNumber 37 = .ok (.putfield 182, 3) := by decide +kernel
theorem dX9_aNumber_40 : decode cX9_aNumber 40 = .ok (.aload_n 0, 1) := by decide +kernel
theorem dX9_aNumber_41 : decode cX9_aNumber 41 = .ok (.invokevirtual 179, 3) := by decide +kernel
theorem dX9_aNumber_44 : decode cX9_aNumber 44 = .ok (.iconst 1, 1) := by decide +kernel
theorem dX9_aNumber_45 : decode cX9_aNumber 45 = .ok (.ireturn, 1) := by decide +kernel
theorem dX9_aLine_0 : decode cX9_aLine 0 = .ok (.aload_n 0, 1) := by decide +kernel
theorem dX9_aLine_1 : decode cX9_aLine 1 = .ok (.getfield 154, 3) := by decide +kernel
theorem dX9_aLine_4 : decode cX9_aLine 4 = .ok (.istore_n 1, 1) := by decide +kernel
theorem dX9_aLine_5 : decode cX9_aLine 5 = .ok (.iload_n 1, 1) := by decide +kernel
theorem dX9_aLine_6 : decode cX9_aLine 6 = .ok (.iconst 3, 1) := by decide +kernel
theorem dX9_aLine_7 : decode cX9_aLine 7 = .ok (.bipush 6, 2) := by decide +kernel
theorem dX9_aLine_9 : decode cX9_aLine 9 = .ok (.invokestatic 96, 3) := by decide +kernel
theorem dX9_aLine_12 : decode cX9_aLine 12 = .ok (.ifCond .ne 9, 3) := by decide +kernel
theorem dX9_aLine_15 : decode cX9_aLine 15 = .ok (.aload_n 0, 1) := by decide +kernel
theorem dX9_aLine_16 : decode cX9_aLine 16 = .ok (.iconst 1, 1) := by decide +kernel
theorem dX9_aLine_17 : decode cX9_aLine 17 = .ok (.invokevirtual 176, 3) := by decide +kernel
theorem dX9_aLine_20 : decode cX9_aLine 20 = .ok (.ireturn, 1) := by decide +kernel
theorem dX9_aLine_21 : decode cX9_aLine 21 = .ok (.aload_n 0, 1) := by decide +kernel
theorem dX9_aLine_22 : decode cX9_aLine 22 = .ok (.getfield 185, 3) := by decide +kernel
theorem dX9_aLine_25 : decode cX9_aLine 25 = .ok (.bipush 24, 2) := by decide +kernel
theorem dX9_aLine_27 : decode cX9_aLine 27 = .ok (.if_icmp .ne 9, 3) := by decide +kernel
theorem dX9_aLine_30 : decode cX9_aLine 30 = .ok (.aload_n 0, 1) := by decide +kernel
theorem dX9_aLine_31 : decode cX9_aLine 31 = .ok (.iconst 3, 1) := by decide +kernel
theorem dX9_aLine_32 : decode cX9_aLine 32 = .ok (.invokevirtual 176, 3) := by decide +kernel
theorem dX9_aLine_35 : decode cX9_aLine 35 = .ok (.ireturn, 1) := by decide +kernel
theorem dX9_aLine_36 : decode cX9_aLine 36 = .ok (.aload_n 0, 1) := by decide +kernel
theorem dX9_aLine_37 : decode cX9_aLine 37 = .ok (.invokevirtual 179, 3) := by decide +kernel
theorem dX9_aLine_40 : decode cX9_aLine 40 = .ok (.aload_n 0, 1) := by decide +kernel
theorem dX9_aLine_41 : decode cX9_aLine 41 = .ok (.iconst 0, 1) := by decide +kernel
theorem dX9_aLine_42 : decode cX9_aLine 42 = .ok (.iconst 5, 1) := by decide +kernel
theorem dX9_aLine_43 : decode cX9_aLine 43 = .ok (.invokevirtual 188, 3) := by decide +kernel
theorem dX9_aLine_46 : decode cX9_aLine 46 = .ok (.ifCond .ne 5, 3) := by decide +kernel
theorem dX9_aLine_49 : decode cX9_aLine 49 = .ok (.iconst 0, 1) := by decide +kernel
theorem dX9_aLine_50 : decode cX9_aLine 50 = .ok (.ireturn, 1) := by decide +kernel
theorem dX9_aLine_51 : decode cX9_aLine 51 = .ok (.aload_n 0, 1) := by decide +kernel
theorem dX9_aLine_52 : decode cX9_aLine 52 = .ok (.getfield 71, 3) := by decide +kernel
theorem dX9_aLine_55 : decode cX9_aLine 55 = .ok (.iconst 4, 1) := by decide +kernel
theorem dX9_aLine_56 : decode cX9_aLine 56 = .ok (.aload_n 0, 1) := by decide +kernel
theorem dX9_aLine_57 : decode cX9_aLine 57 = .ok (.getfield 185, 3) := by decide +kernel
theorem dX9_aLine_60 : decode cX9_aLine 60 = .ok (.imul, 1) := by decide +kernel
theorem dX9_aLine_61 : decode cX9_aLine 61 = .ok (.iload_n 1, 1) := by decide +kernel
theorem dX9_aLine_62 : decode cX9_aLine 62 = .ok (.iastore, 1) := by decide +kernel
theorem dX9_aLine_63 : decode cX9_aLine 63 = .ok (.aload_n 0, 1) := by decide +kernel
theorem dX9_aLine_64 : decode cX9_aLine 64 = .ok (.getfield 71, 3) := by decide +kernel
theorem dX9_aLine_67 : decode cX9_aLine 67 = .ok (.iconst 4, 1) := by decide +kernel
theorem dX9_aLine_68 : decode cX9_aLine 68 = .ok (.aload_n 0, 1) := by decide +kernel
theorem dX9_aLine_69 : decode cX9_aLine 69 = .ok (.getfield 185, 3) := by decide +kernel
theorem dX9_aLine_72 : decode cX9_aLine 72 = .ok (.imul, 1) := by decide +kernel
theorem dX9_aLine_73 : decode cX9_aLine 73 = .ok (.iconst 1, 1) := by decide +kernel
theorem dX9_aLine_74 : decode cX9_aLine 74 = .ok (.iadd, 1) := by decide +kernel
theorem dX9_aLine_75 : decode cX9_aLine 75 = .ok (.aload_n 0, 1) := by decide +kernel
theorem dX9_aLine_76 : decode cX9_aLine 76 = .ok (.getfield 182, 3) := by decide +kernel
theorem dX9_aLine_79 : decode cX9_aLine 79 = .ok (.iastore, 1) := by decide +kernel
theorem dX9_aLine_80 : decode cX9_aLine 80 = .ok (.iload_n 1, 1) := by decide +kernel
theorem dX9_aLine_81 : decode cX9_aLine 81 = .ok (.bipush 6, 2) := by decide +kernel
theorem dX9_aLine_83 : decode cX9_aLine 83 = .ok (.if_icmp .eq 70, 3) := by decide +kernel
theorem dX9_aLine_86 : decode cX9_aLine 86 = .ok (.aload_n 0, 1) := by decide +kernel
theorem dX9_aLine_87 : decode cX9_aLine 87 = .ok (.iload_n 1, 1) := by decide +kernel
theorem dX9_aLine_88 : decode cX9_aLine 88 = .ok (.iconst 3, 1) := by decide +kernel
theorem dX9_aLine_89 : decode cX9_aLine 89 = .ok (.if_icmp .ne 8, 3) := by decide +kernel
theorem dX9_aLine_92 : decode cX9_aLine 92 = .ok (.bipush 7, 2) := by decide +kernel
theorem dX9_aLine_94 : decode cX9_aLine 94 = .ok (.goto 15, 3) := by decide +kernel
theorem dX9_aLine_97 : decode cX9_aLine 97 = .ok (.iload_n 1, 1) := by decide +kernel
theorem dX9_aLine_98 : decode cX9_aLine 98 = .ok (.iconst 4, 1) := by decide +kernel
theorem dX9_aLine_99 : decode cX9_aLine 99 = .ok (.if_icmp .ne 8, 3) := by decide +kernel
theorem dX9_aLine_102 : decode cX9_aLine 102 = .ok (.bipush 8, 2) := by decide +kernel
theorem dX9_aLine_104 : decode cX9_aLine 104 = .ok (.goto 5, 3) := by decide +kernel
theorem dX9_aLine_107 : decode cX9_aLine 107 = .ok (.bipush 10, 2) := by decide +kernel
theorem dX9_aLine_109 : decode cX9_aLine 109 = .ok (.invokevirtual 191, 3) := by decide +kernel
theorem dX9_aLine_112 : decode cX9_aLine 112 = .ok (.ifCond .eq 22, 3) := by decide +kernel
theorem dX9_aLine_115 : decode cX9_aLine 115 = .ok (.aload_n 0, 1) := by decide +kernel
theorem dX9_aLine_116 : decode cX9_aLine 116 = .ok (.iconst 0, 1) := by decide +kernel
theorem dX9_aLine_117 : decode cX9_aLine 117 = .ok (.iload_n 1, 1) := by decide +kernel
theorem dX9_aLine_118 : decode cX9_aLine 118 = .ok (.iconst 5, 1) := by decide +kernel
theorem dX9_aLine_119 : decode cX9_aLine 119 = .ok (.if_icmp .ne 8, 3) := by decide +kernel
theorem dX9_aLine_122 : decode cX9_aLine 122 = .ok (.bipush 51, 2) := by decide +kernel
theorem dX9_aLine_124 : decode cX9_aLine 124 = .ok (.goto 4, 3) := by decide +kernel
theorem dX9_aLine_127 : decode cX9_aLine 127 = .ok (.iconst 3, 1) := by decide +kernel
theorem dX9_aLine_128 : decode cX9_aLine 128 = .ok (.invokevirtual 188, 3) := by decide +kernel
theorem dX9_aLine_131 : decode cX9_aLine 131 = .ok (.ifCond .ne 5, 3) := by decide +kernel
theorem dX9_aLine_134 : decode cX9_aLine 134 = .ok (.iconst 0, 1) := by decide +kernel
theorem dX9_aLine_135 : decode cX9_aLine 135 = .ok (.ireturn, 1) := by decide +kernel
theorem dX9_aLine_136 : decode cX9_aLine 136 = .ok (.aload_n 0, 1) := by decide +kernel
theorem dX9_aLine_137 : decode cX9_aLine 137 = .ok (.getfield 71, 3) := by decide +kernel
theorem dX9_aLine_140 : decode cX9_aLine 140 = .ok (.iconst 4, 1) := by decide +kernel
theorem dX9_aLine_141 : decode cX9_aLine 141 = .ok (.aload_n 0, 1) := by decide +kernel
theorem dX9_aLine_142 : decode cX9_aLine 142 = .ok (.getfield 185, 3) := by decide +kernel
theorem dX9_aLine_145 : decode cX9_aLine 145 = .ok (.imul, 1) := by decide +kernel
theorem dX9_aLine_146 : decode cX9_aLine 146 = .ok (.iconst 2, 1) := by decide +kernel
theorem dX9_aLine_147 : decode cX9_aLine 147 = .ok (.iadd, 1) := by decide +kernel
theorem dX9_aLine_148 : decode cX9_aLine 148 = .ok (.aload_n 0, 1) := by decide +kernel
theorem dX9_aLine_149 : decode cX9_aLine 149 = .ok (.getfield 182, 3) := by decide +kernel
theorem dX9_aLine_152 : decode cX9_aLine 152 = .ok (.iastore, 1) := by decide +kernel
theorem dX9_aLine_153 : decode cX9_aLine 153 = .ok (.iload_n 1, 1) := by decide +kernel
theorem dX9_aLine_154 : decode cX9_aLine 154 = .ok (.iconst 4, 1) := by decide +kernel
theorem dX9_aLine_155 : decode cX9_aLine 155 = .ok (.if_icmp .eq 8, 3) := by decide +kernel
theorem dX9_aLine_158 : decode cX9_aLine 158 = .ok (.iload_n 1, 1) := by decide +kernel
theorem dX9_aLine_159 : decode cX9_aLine 159 = .ok (.iconst 5, 1) := by decide +kernel
theorem dX9_aLine_160 : decode cX9_aLine 160 = .ok (.if_icmp .ne 72, 3) := by decide +kernel
theorem dX9_aLine_163 : decode cX9_aLine 163 = .ok (.aload_n 0, 1) := by decide +kernel
theorem dX9_aLine_164 : decode cX9_aLine 164 = .ok (.iload_n 1, 1) := by decide +kernel
theorem dX9_aLine_165 : decode cX9_aLine 165 = .ok (.iconst 4, 1) := by decide +kernel
theorem dX9_aLine_166 : decode cX9_aLine 166 = .ok (.if_icmp .ne 8, 3) := by decide +kernel
theorem dX9_aLine_169 : decode cX9_aLine 169 = .ok (.bipush 9, 2) := by decide +kernel
theorem dX9_aLine_171 : decode cX9_aLine 171 = .ok (.goto 5, 3) := by decide +kernel
theorem dX9_aLine_174 : decode cX9_aLine 174 = .ok (.bipush 8, 2) := by decide +kernel
theorem dX9_aLine_176 : decode cX9_aLine 176 = .ok (.invokevirtual 191, 3) := by decide +kernel
theorem dX9_aLine_179 : decode cX9_aLine 179 = .ok (.ifCond .eq 34, 3) := by decide +kernel
theorem dX9_aLine_182 : decode cX9_aLine 182 = .ok (.aload_n 0, 1) := by decide +kernel
theorem dX9_aLine_183 : decode cX9_aLine 183 = .ok (.iload_n 1, 1) := by decide +kernel
theorem dX9_aLine_184 : decode cX9_aLine 184 = .ok (.iconst 4, 1) := by decide +kernel
theorem dX9_aLine_185 : decode cX9_aLine 185 = .ok (.if_icmp .ne 7, 3) := by decide +kernel
theorem dX9_aLine_188 : decode cX9_aLine 188 = .ok (.iconst 0, 1) := by decide +kernel
theorem dX9_aLine_189 : decode cX9_aLine 189 = .ok (.goto 16, 3) := by decide +kernel
theorem dX9_aLine_192 : decode cX9_aLine 192 = .ok (.aload_n 0, 1) := by decide +kernel
theorem dX9_aLine_193 : decode cX9_aLine 193 = .ok (.getfield 71, 3) := by decide +kernel
theorem dX9_aLine_196 : decode cX9_aLine 196 = .ok (.iconst 4, 1) := by decide +kernel
theorem dX9_aLine_197 : decode cX9_aLine 197 = .ok (.aload_n 0, 1) := by decide +kernel
theorem dX9_aLine_198 : decode cX9_aLine 198 = .ok (.getfield 185, 3) := by decide +kernel
theorem dX9_aLine_201 : decode cX9_aLine 201 = .ok (.imul, 1) := by decide +kernel
theorem dX9_aLine_202 : decode cX9_aLine 202 = .ok (.iconst 2, 1) := by decide +kernel
theorem dX9_aLine_203 : decode cX9_aLine 203 = .ok (.iadd, 1) := by decide +kernel
theorem dX9_aLine_204 : decode cX9_aLine 204 = .ok (.iaload, 1) := by decide +kernel
theorem dX9_aLine_205 : decode cX9_aLine 205 = .ok (.bipush 51, 2) := by decide +kernel
theorem dX9_aLine_207 : decode cX9_aLine 207 = .ok (.invokevirtual 188, 3) := by decide +kernel
theorem dX9_aLine_210 : decode cX9_aLine 210 = .ok (.ifCond .ne 5, 3) := by decide +kernel
theorem dX9_aLine_213 : decode cX9_aLine 213 = .ok (.iconst 0, 1) := by decide +kernel
theorem dX9_aLine_214 : decode cX9_aLine 214 = .ok (.ireturn, 1) := by decide +kernel
theorem dX9_aLine_215 : decode cX9_aLine 215 = .ok (.aload_n 0, 1) := by decide +kernel
theorem dX9_aLine_216 : decode cX9_aLine 216 = .ok (.getfield 71, 3) := by decide +kernel
theorem dX9_aLine_219 : decode cX9_aLine 219 = .ok (.iconst 4, 1) := by decide +kernel
theorem dX9_aLine_220 : decode cX9_aLine 220 = .ok (.aload_n 0, 1) := by decide +kernel
theorem dX9_aLine_221 : decode cX9_aLine 221 = .ok (.getfield 185, 3) := by decide +kernel
theorem dX9_aLine_224 : decode cX9_aLine 224 = .ok (.imul, 1) := by decide +kernel
theorem dX9_aLine_225 : decode cX9_aLine 225 = .ok (.iconst 3, 1) := by decide +kernel
theorem dX9_aLine_226 : decode cX9_aLine 226 = .ok (.iadd, 1) := by decide +kernel
theorem dX9_aLine_227 : decode cX9_aLine 227 = .ok (.aload_n 0, 1) := by decide +kernel
theorem dX9_aLine_228 : decode cX9_aLine 228 = .ok (.getfield 182, 3) := by decide +kernel
theorem dX9_aLine_231 : decode cX9_aLine 231 = .ok (.iastore, 1) := by decide +kernel
theorem dX9_aLine_232 : decode cX9_aLine 232 = .ok (.aload_n 0, 1) := by decide +kernel
theorem dX9_aLine_233 : decode cX9_aLine 233 = .ok (.dup, 1) := by decide +kernel
theorem dX9_aLine_234 : decode cX9_aLine 234 = .ok (.getfield 185, 3) := by decide +kernel
theorem dX9_aLine_237 : decode cX9_aLine 237 = .ok (.iconst 1, 1) := by decide +kernel
theorem dX9_aLine_238 : decode cX9_aLine 238 = .ok (.iadd, 1) := by decide +kernel
theorem dX9_aLine_239 : decode cX9_aLine 239 = .ok (.putfield 185, 3) := by decide +kernel
theorem dX9_aLine_242 : decode cX9_aLine 242 = .ok (.aload_n 0, 1) := by decide +kernel
theorem dX9_aLine_243 : decode cX9_aLine 243 = .ok (.bipush 59, 2) := by decide +kernel
theorem dX9_aLine_245 : decode cX9_aLine 245 = .ok (.invokevirtual 191, 3) := by decide +kernel
theorem dX9_aLine_248 : decode cX9_aLine 248 = .ok (.ireturn, 1) := by decide +kernel
theorem dX9_tells_0 : decode cX9_tells 0 = .ok (.aload_n 0, 1) := by decide +kernel
theorem dX9_tells_1 : decode cX9_tells 1 = .ok (.getfield 71, 3) := by decide +kernel
theorem dX9_tells_4 : decode cX9_tells 4 = .ok (.iconst 4, 1) := by decide +kernel
theorem dX9_tells_5 : decode cX9_tells 5 = .ok (.iload_n 1, 1) := by decide +kernel
theorem dX9_tells_6 : decode cX9_tells 6 = .ok (.imul, 1) := by decide +kernel
theorem dX9_tells_7 : decode cX9_tells 7 = .ok (.iconst 1, 1) := by decide +kernel
theorem dX9_tells_8 : decode cX9_tells 8 = .ok (.iadd, 1) := by decide +kernel
theorem dX9_tells_9 : decode cX9_tells 9 = .ok (.iaload, 1) := by decide +kernel
theorem dX9_tells_10 : decode cX9_tells 10 = .ok (.istore_n 2, 1) := by decide +kernel
theorem dX9_tells_11 : decode cX9_tells 11 = .ok (.aload_n 0, 1) := by decide +kernel
theorem dX9_tells_12 : decode cX9_tells 12 = .ok (.getfield 71, 3) := by decide +kernel
theorem dX9_tells_15 : decode cX9_tells 15 = .ok (.iconst 4, 1) := by decide +kernel
theorem dX9_tells_16 : decode cX9_tells 16 = .ok (.iload_n 1, 1) := by decide +kernel
theorem dX9_tells_17 : decode cX9_tells 17 = .ok (.imul, 1) := by decide +kernel
theorem dX9_tells_18 : decode cX9_tells 18 = .ok (.iconst 2, 1) := by decide +kernel
theorem dX9_tells_19 : decode cX9_tells 19 = .ok (.iadd, 1) := by decide +kernel
theorem dX9_tells_20 : decode cX9_tells 20 = .ok (.iaload, 1) := by decide +kernel
theorem dX9_tells_21 : decode cX9_tells 21 = .ok (.istore_n 3, 1) := by decide +kernel
theorem dX9_tells_22 : decode cX9_tells 22 = .ok (.aload_n 0, 1) := by decide +kernel
theorem dX9_tells_23 : decode cX9_tells 23 = .ok (.getfield 71, 3) := by decide +kernel
theorem dX9_tells_26 : decode cX9_tells 26 = .ok (.iconst 4, 1) := by decide +kernel
theorem dX9_tells_27 : decode cX9_tells 27 = .ok (.iload_n 1, 1) := by decide +kernel
theorem dX9_tells_28 : decode cX9_tells 28 = .ok (.imul, 1) := by decide +kernel
theorem dX9_tells_29 : decode cX9_tells 29 = .ok (.iconst 3, 1) := by decide +kernel
theorem dX9_tells_30 : decode cX9_tells 30 = .ok (.iadd, 1) := by decide +kernel
theorem dX9_tells_31 : decode cX9_tells 31 = .ok (.iaload, 1) := by decide +kernel
theorem dX9_tells_32 : decode cX9_tells 32 = .ok (.istore 4, 2) := by decide +kernel
theorem dX9_tells_34 : decode cX9_tells 34 = .ok (.aload_n 0, 1) := by decide +kernel
theorem dX9_tells_35 : decode cX9_tells 35 = .ok (.getfield 71, 3) := by decide +kernel
theorem dX9_tells_38 : decode cX9_tells 38 = .ok (.iconst 4, 1) := by decide +kernel
theorem dX9_tells_39 : decode cX9_tells 39 = .ok (.iload_n 1, 1) := by decide +kernel
theorem dX9_tells_40 : decode cX9_tells 40 = .ok (.imul, 1) := by decide +kernel
theorem dX9_tells_41 : decode cX9_tells 41 = .ok (.iaload, 1) := by decide +kernel
theorem dX9_tells_42 : decode cX9_tells 42 = .ok (.tableswitch 138 3 5 #[26, 63, 106], 26) := by decide +kernel
theorem dX9_tells_68 : decode cX9_tells 68 = .ok (.aload_n 0, 1) := by decide +kernel
theorem dX9_tells_69 : decode cX9_tells 69 = .ok (.getfield 58, 3) := by decide +kernel
theorem dX9_tells_72 : decode cX9_tells 72 = .ok (.iload_n 2, 1) := by decide +kernel
theorem dX9_tells_73 : decode cX9_tells 73 = .ok (.iload_n 3, 1) := by decide +kernel
theorem dX9_tells_74 : decode cX9_tells 74 = .ok (.iastore, 1) := by decide +kernel
theorem dX9_tells_75 : decode cX9_tells 75 = .ok (.iconst 0, 1) := by decide +kernel
theorem dX9_tells_76 : decode cX9_tells 76 = .ok (.istore 5, 2) := by decide +kernel
theorem dX9_tells_78 : decode cX9_tells 78 = .ok (.iload 5, 2) := by decide +kernel
theorem dX9_tells_80 : decode cX9_tells 80 = .ok (.iconst 4, 1) := by decide +kernel
theorem dX9_tells_81 : decode cX9_tells 81 = .ok (.if_icmp .ge 21, 3) := by decide +kernel
theorem dX9_tells_84 : decode cX9_tells 84 = .ok (.aload_n 0, 1) := by decide +kernel
theorem dX9_tells_85 : decode cX9_tells 85 = .ok (.getfield 61, 3) := by decide +kernel
theorem dX9_tells_88 : decode cX9_tells 88 = .ok (.iconst 4, 1) := by decide +kernel
theorem dX9_tells_89 : decode cX9_tells 89 = .ok (.iload_n 2, 1) := by decide +kernel
theorem dX9_tells_90 : decode cX9_tells 90 = .ok (.imul, 1) := by decide +kernel
theorem dX9_tells_91 : decode cX9_tells 91 = .ok (.iload 5, 2) := by decide +kernel
theorem dX9_tells_93 : decode cX9_tells 93 = .ok (.iadd, 1) := by decide +kernel
theorem dX9_tells_94 : decode cX9_tells 94 = .ok (.iconst (-1), 1) := by decide +kernel
theorem dX9_tells_95 : decode cX9_tells 95 = .ok (.iastore, 1) := by decide +kernel
theorem dX9_tells_96 : decode cX9_tells 96 = .ok (.iinc 5 1, 3) := by decide +kernel
theorem dX9_tells_99 : decode cX9_tells 99 = .ok (.goto (-21), 3) := by decide +kernel
theorem dX9_tells_102 : decode cX9_tells 102 = .ok (.goto 85, 3) := by decide +kernel
theorem dX9_tells_105 : decode cX9_tells 105 = .ok (.aload_n 0, 1) := by decide +kernel
theorem dX9_tells_106 : decode cX9_tells 106 = .ok (.getfield 61, 3) := by decide +kernel
theorem dX9_tells_109 : decode cX9_tells 109 = .ok (.iconst 4, 1) := by decide +kernel
theorem dX9_tells_110 : decode cX9_tells 110 = .ok (.iload_n 2, 1) := by decide +kernel
theorem dX9_tells_111 : decode cX9_tells 111 = .ok (.imul, 1) := by decide +kernel
theorem dX9_tells_112 : decode cX9_tells 112 = .ok (.iload_n 3, 1) := by decide +kernel
theorem dX9_tells_113 : decode cX9_tells 113 = .ok (.iadd, 1) := by decide +kernel
theorem dX9_tells_114 : decode cX9_tells 114 = .ok (.aload_n 0, 1) := by decide +kernel
theorem dX9_tells_115 : decode cX9_tells 115 = .ok (.getfield 61, 3) := by decide +kernel
theorem dX9_tells_118 : decode cX9_tells 118 = .ok (.iconst 4, 1) := by decide +kernel
theorem dX9_tells_119 : decode cX9_tells 119 = .ok (.iload_n 2, 1) := by decide +kernel
theorem dX9_tells_120 : decode cX9_tells 120 = .ok (.imul, 1) := by decide +kernel
theorem dX9_tells_121 : decode cX9_tells 121 = .ok (.iload_n 3, 1) := by decide +kernel
theorem dX9_tells_122 : decode cX9_tells 122 = .ok (.iadd, 1) := by decide +kernel
theorem dX9_tells_123 : decode cX9_tells 123 = .ok (.iaload, 1) := by decide +kernel
theorem dX9_tells_124 : decode cX9_tells 124 = .ok (.iload 4, 2) := by decide +kernel
theorem dX9_tells_126 : decode cX9_tells 126 = .ok (.if_icmp .le 16, 3) := by decide +kernel
theorem dX9_tells_129 : decode cX9_tells 129 = .ok (.aload_n 0, 1) := by decide +kernel
theorem dX9_tells_130 : decode cX9_tells 130 = .ok (.getfield 61, 3) := by decide +kernel
theorem dX9_tells_133 : decode cX9_tells 133 = .ok (.iconst 4, 1) := by decide +kernel
theorem dX9_tells_134 : decode cX9_tells 134 = .ok (.iload_n 2, 1) := by decide +kernel
theorem dX9_tells_135 : decode cX9_tells 135 = .ok (.imul, 1) := by decide +kernel
theorem dX9_tells_136 : decode cX9_tells 136 = .ok (.iload_n 3, 1) := by decide +kernel
theorem dX9_tells_137 : decode cX9_tells 137 = .ok (.iadd, 1) := by decide +kernel
theorem dX9_tells_138 : decode cX9_tells 138 = .ok (.iaload, 1) := by decide +kernel
theorem dX9_tells_139 : decode cX9_tells 139 = .ok (.goto 5, 3) := by decide +kernel
theorem dX9_tells_142 : decode cX9_tells 142 = .ok (.iload 4, 2) := by decide +kernel
theorem dX9_tells_144 : decode cX9_tells 144 = .ok (.iastore, 1) := by decide +kernel
theorem dX9_tells_145 : decode cX9_tells 145 = .ok (.goto 42, 3) := by decide +kernel
theorem dX9_tells_148 : decode cX9_tells 148 = .ok (.iload_n 3, 1) := by decide +kernel
theorem dX9_tells_149 : decode cX9_tells 149 = .ok (.istore 5, 2) := by decide +kernel
theorem dX9_tells_151 : decode cX9_tells 151 = .ok (.iload 5, 2) := by decide +kernel
theorem dX9_tells_153 : decode cX9_tells 153 = .ok (.iload 4, 2) := by decide +kernel
theorem dX9_tells_155 : decode cX9_tells 155 = .ok (.if_icmp .gt 22, 3) := by decide +kernel
theorem dX9_tells_158 : decode cX9_tells 158 = .ok (.aload_n 0, 1) := by decide +kernel
theorem dX9_tells_159 : decode cX9_tells 159 = .ok (.getfield 64, 3) := by decide +kernel
theorem dX9_tells_162 : decode cX9_tells 162 = .ok (.bipush 52, 2) := by decide +kernel
theorem dX9_tells_164 : decode cX9_tells 164 = .ok (.iload_n 2, 1) := by decide +kernel
theorem dX9_tells_165 : decode cX9_tells 165 = .ok (.imul, 1) := by decide +kernel
theorem dX9_tells_166 : decode cX9_tells 166 = .ok (.iload 5, 2) := by decide +kernel
theorem dX9_tells_168 : decode cX9_tells 168 = .ok (.iadd, 1) := by decide +kernel
theorem dX9_tells_169 : decode cX9_tells 169 = .ok (.iconst 1, 1) := by decide +kernel
theorem dX9_tells_170 : decode cX9_tells 170 = .ok (.bastore, 1) := by decide +kernel
theorem dX9_tells_171 : decode cX9_tells 171 = .ok (.iinc 5 1, 3) := by decide +kernel
theorem dX9_tells_174 : decode cX9_tells 174 = .ok (.goto (-23), 3) := by decide +kernel
theorem dX9_tells_177 : decode cX9_tells 177 = .ok (.goto 10, 3) := by decide +kernel
theorem dX9_tells_180 : decode cX9_tells 180 = .ok (.aload_n 0, 1) := by decide +kernel
theorem dX9_tells_181 : decode cX9_tells 181 = .ok (.getfield 58, 3) := by decide +kernel
theorem dX9_tells_184 : decode cX9_tells 184 = .ok (.iload_n 2, 1) := by decide +kernel
theorem dX9_tells_185 : decode cX9_tells 185 = .ok (.iconst (-1), 1) := by decide +kernel
theorem dX9_tells_186 : decode cX9_tells 186 = .ok (.iastore, 1) := by decide +kernel
theorem dX9_tells_187 : decode cX9_tells 187 = .ok (.return_, 1) := by decide +kernel
theorem dX9_custom_0 : decode cX9_custom 0 = .ok (.aload_n 0, 1) := by decide +kernel
theorem dX9_custom_1 : decode cX9_custom 1 = .ok (.iconst 0, 1) := by decide +kernel
theorem dX9_custom_2 : decode cX9_custom 2 = .ok (.putfield 170, 3) := by decide +kernel
theorem dX9_custom_5 : decode cX9_custom 5 = .ok (.aload_n 0, 1) := by decide +kernel
theorem dX9_custom_6 : decode cX9_custom 6 = .ok (.iconst 0, 1) := by decide +kernel
theorem dX9_custom_7 : decode cX9_custom 7 = .ok (.putfield 144, 3) := by decide +kernel
theorem dX9_custom_10 : decode cX9_custom 10 = .ok (.aload_n 0, 1) := by decide +kernel
theorem dX9_custom_11 : decode cX9_custom 11 = .ok (.iconst 0, 1) := by decide +kernel
theorem dX9_custom_12 : decode cX9_custom 12 = .ok (.putfield 185, 3) := by decide +kernel
theorem dX9_custom_15 : decode cX9_custom 15 = .ok (.aload_n 0, 1) := by decide +kernel
theorem dX9_custom_16 : decode cX9_custom 16 = .ok (.invokevirtual 179, 3) := by decide +kernel
theorem dX9_custom_19 : decode cX9_custom 19 = .ok (.iconst 1, 1) := by decide +kernel
theorem dX9_custom_20 : decode cX9_custom 20 = .ok (.istore_n 1, 1) := by decide +kernel
theorem dX9_custom_21 : decode cX9_custom 21 = .ok (.iload_n 1, 1) := by decide +kernel
theorem dX9_custom_22 : decode cX9_custom 22 = .ok (.ifCond .eq 18, 3) := by decide +kernel
theorem dX9_custom_25 : decode cX9_custom 25 = .ok (.aload_n 0, 1) := by decide +kernel
theorem dX9_custom_26 : decode cX9_custom 26 = .ok (.getfield 154, 3) := by decide +kernel
theorem dX9_custom_29 : decode cX9_custom 29 = .ok (.ifCond .eq 11, 3) := by decide +kernel
theorem dX9_custom_32 : decode cX9_custom 32 = .ok (.aload_n 0, 1) := by decide +kernel
theorem dX9_custom_33 : decode cX9_custom 33 = .ok (.invokevirtual 194, 3) := by decide +kernel
theorem dX9_custom_36 : decode cX9_custom 36 = .ok (.istore_n 1, 1) := by decide +kernel
theorem dX9_custom_37 : decode cX9_custom 37 = .ok (.goto (-16), 3) := by decide +kernel
theorem dX9_custom_40 : decode cX9_custom 40 = .ok (.aload_n 0, 1) := by decide +kernel
theorem dX9_custom_41 : decode cX9_custom 41 = .ok (.iconst 0, 1) := by decide +kernel
theorem dX9_custom_42 : decode cX9_custom 42 = .ok (.putfield 125, 3) := by decide +kernel
theorem dX9_custom_45 : decode cX9_custom 45 = .ok (.aload_n 0, 1) := by decide +kernel
theorem dX9_custom_46 : decode cX9_custom 46 = .ok (.aload_n 0, 1) := by decide +kernel
theorem dX9_custom_47 : decode cX9_custom 47 = .ok (.getfield 170, 3) := by decide +kernel
theorem dX9_custom_50 : decode cX9_custom 50 = .ok (.putfield 198, 3) := by decide +kernel
theorem dX9_custom_53 : decode cX9_custom 53 = .ok (.aload_n 0, 1) := by decide +kernel
theorem dX9_custom_54 : decode cX9_custom 54 = .ok (.iload_n 1, 1) := by decide +kernel
theorem dX9_custom_55 : decode cX9_custom 55 = .ok (.ifCond .eq 7, 3) := by decide +kernel
theorem dX9_custom_58 : decode cX9_custom 58 = .ok (.iconst (-1), 1) := by decide +kernel
theorem dX9_custom_59 : decode cX9_custom 59 = .ok (.goto 7, 3) := by decide +kernel
theorem dX9_custom_62 : decode cX9_custom 62 = .ok (.aload_n 0, 1) := by decide +kernel
theorem dX9_custom_63 : decode cX9_custom 63 = .ok (.getfield 173, 3) := by decide +kernel
theorem dX9_custom_66 : decode cX9_custom 66 = .ok (.putfield 74, 3) := by decide +kernel
theorem dX9_custom_69 : decode cX9_custom 69 = .ok (.iload_n 1, 1) := by decide +kernel
theorem dX9_custom_70 : decode cX9_custom 70 = .ok (.ifCond .ne 5, 3) := by decide +kernel
theorem dX9_custom_73 : decode cX9_custom 73 = .ok (.iconst (-1), 1) := by decide +kernel
theorem dX9_custom_74 : decode cX9_custom 74 = .ok (.ireturn, 1) := by decide +kernel
theorem dX9_custom_75 : decode cX9_custom 75 = .ok (.iconst 0, 1) := by decide +kernel
theorem dX9_custom_76 : decode cX9_custom 76 = .ok (.istore_n 2, 1) := by decide +kernel
theorem dX9_custom_77 : decode cX9_custom 77 = .ok (.iload_n 2, 1) := by decide +kernel
theorem dX9_custom_78 : decode cX9_custom 78 = .ok (.bipush 6, 2) := by decide +kernel
theorem dX9_custom_80 : decode cX9_custom 80 = .ok (.if_icmp .ge 66, 3) := by decide +kernel
theorem dX9_custom_83 : decode cX9_custom 83 = .ok (.aload_n 0, 1) := by decide +kernel
theorem dX9_custom_84 : decode cX9_custom 84 = .ok (.getfield 58, 3) := by decide +kernel
theorem dX9_custom_87 : decode cX9_custom 87 = .ok (.iload_n 2, 1) := by decide +kernel
theorem dX9_custom_88 : decode cX9_custom 88 = .ok (.iconst (-1), 1) := by decide +kernel
theorem dX9_custom_89 : decode cX9_custom 89 = .ok (.iastore, 1) := by decide +kernel
theorem dX9_custom_90 : decode cX9_custom 90 = .ok (.iconst 0, 1) := by decide +kernel
theorem dX9_custom_91 : decode cX9_custom 91 = .ok (.istore_n 3, 1) := by decide +kernel
theorem dX9_custom_92 : decode cX9_custom 92 = .ok (.iload_n 3, 1) := by decide +kernel
theorem dX9_custom_93 : decode cX9_custom 93 = .ok (.iconst 4, 1) := by decide +kernel
theorem dX9_custom_94 : decode cX9_custom 94 = .ok (.if_icmp .ge 20, 3) := by decide +kernel
theorem dX9_custom_97 : decode cX9_custom 97 = .ok (.aload_n 0, 1) := by decide +kernel
theorem dX9_custom_98 : decode cX9_custom 98 = .ok (.getfield 61, 3) := by decide +kernel
theorem dX9_custom_101 : decode cX9_custom 101 = .ok (.iconst 4, 1) := by decide +kernel
theorem dX9_custom_102 : decode cX9_custom 102 = .ok (.iload_n 2, 1) := by decide +kernel
theorem dX9_custom_103 : decode cX9_custom 103 = .ok (.imul, 1) := by decide +kernel
theorem dX9_custom_104 : decode cX9_custom 104 = .ok (.iload_n 3, 1) := by decide +kernel
theorem dX9_custom_105 : decode cX9_custom 105 = .ok (.iadd, 1) := by decide +kernel
theorem dX9_custom_106 : decode cX9_custom 106 = .ok (.iconst (-1), 1) := by decide +kernel
theorem dX9_custom_107 : decode cX9_custom 107 = .ok (.iastore, 1) := by decide +kernel
theorem dX9_custom_108 : decode cX9_custom 108 = .ok (.iinc 3 1, 3) := by decide +kernel
theorem dX9_custom_111 : decode cX9_custom 111 = .ok (.goto (-19), 3) := by decide +kernel
theorem dX9_custom_114 : decode cX9_custom 114 = .ok (.iconst 0, 1) := by decide +kernel
theorem dX9_custom_115 : decode cX9_custom 115 = .ok (.istore_n 3, 1) := by decide +kernel
theorem dX9_custom_116 : decode cX9_custom 116 = .ok (.iload_n 3, 1) := by decide +kernel
theorem dX9_custom_117 : decode cX9_custom 117 = .ok (.bipush 52, 2) := by decide +kernel
theorem dX9_custom_119 : decode cX9_custom 119 = .ok (.if_icmp .ge 21, 3) := by decide +kernel
theorem dX9_custom_122 : decode cX9_custom 122 = .ok (.aload_n 0, 1) := by decide +kernel
theorem dX9_custom_123 : decode cX9_custom 123 = .ok (.getfield 64, 3) := by decide +kernel
theorem dX9_custom_126 : decode cX9_custom 126 = .ok (.bipush 52, 2) := by decide +kernel
theorem dX9_custom_128 : decode cX9_custom 128 = .ok (.iload_n 2, 1) := by decide +kernel
theorem dX9_custom_129 : decode cX9_custom 129 = .ok (.imul, 1) := by decide +kernel
theorem dX9_custom_130 : decode cX9_custom 130 = .ok (.iload_n 3, 1) := by decide +kernel
theorem dX9_custom_131 : decode cX9_custom 131 = .ok (.iadd, 1) := by decide +kernel
theorem dX9_custom_132 : decode cX9_custom 132 = .ok (.iconst 0, 1) := by decide +kernel
theorem dX9_custom_133 : decode cX9_custom 133 = .ok (.bastore, 1) := by decide +kernel
theorem dX9_custom_134 : decode cX9_custom 134 = .ok (.iinc 3 1, 3) := by decide +kernel
theorem dX9_custom_137 : decode cX9_custom 137 = .ok (.goto (-21), 3) := by decide +kernel
theorem dX9_custom_140 : decode cX9_custom 140 = .ok (.iinc 2 1, 3) := by decide +kernel
theorem dX9_custom_143 : decode cX9_custom 143 = .ok (.goto (-66), 3) := by decide +kernel
theorem dX9_custom_146 : decode cX9_custom 146 = .ok (.iconst 0, 1) := by decide +kernel
theorem dX9_custom_147 : decode cX9_custom 147 = .ok (.istore_n 2, 1) := by decide +kernel
theorem dX9_custom_148 : decode cX9_custom 148 = .ok (.iload_n 2, 1) := by decide +kernel
theorem dX9_custom_149 : decode cX9_custom 149 = .ok (.aload_n 0, 1) := by decide +kernel
theorem dX9_custom_150 : decode cX9_custom 150 = .ok (.getfield 185, 3) := by decide +kernel
theorem dX9_custom_153 : decode cX9_custom 153 = .ok (.if_icmp .ge 14, 3) := by decide +kernel
theorem dX9_custom_156 : decode cX9_custom 156 = .ok (.aload_n 0, 1) := by decide +kernel
theorem dX9_custom_157 : decode cX9_custom 157 = .ok (.iload_n 2, 1) := by decide +kernel
theorem dX9_custom_158 : decode cX9_custom 158 = .ok (.invokevirtual 201, 3) := by decide +kernel
theorem dX9_custom_161 : decode cX9_custom 161 = .ok (.iinc 2 1, 3) := by decide +kernel
theorem dX9_custom_164 : decode cX9_custom 164 = .ok (.goto (-16), 3) := by decide +kernel
theorem dX9_custom_167 : decode cX9_custom 167 = .ok (.aload_n 0, 1) := by decide +kernel
theorem dX9_custom_168 : decode cX9_custom 168 = .ok (.getfield 185, 3) := by decide +kernel
theorem dX9_custom_171 : decode cX9_custom 171 = .ok (.ireturn, 1) := by decide +kernel
theorem dX9_fault_0 : decode cX9_fault 0 = .ok (.iload_n 1, 1) := by decide +kernel
theorem dX9_fault_1 : decode cX9_fault 1 = .ok (.ifCond .ne 10, 3) := by decide +kernel
theorem dX9_fault_4 : decode cX9_fault 4 = .ok (.aload_n 0, 1) := by decide +kernel
theorem dX9_fault_5 : decode cX9_fault 5 = .ok (.getfield 198, 3) := by decide +kernel
theorem dX9_fault_8 : decode cX9_fault 8 = .ok (.goto 16, 3) := by decide +kernel
theorem dX9_fault_11 : decode cX9_fault 11 = .ok (.iload_n 1, 1) := by decide +kernel
theorem dX9_fault_12 : decode cX9_fault 12 = .ok (.iconst 1, 1) := by decide +kernel
theorem dX9_fault_13 : decode cX9_fault 13 = .ok (.if_icmp .ne 10, 3) := by decide +kernel
theorem dX9_fault_16 : decode cX9_fault 16 = .ok (.aload_n 0, 1) := by decide +kernel
theorem dX9_fault_17 : decode cX9_fault 17 = .ok (.getfield 74, 3) := by decide +kernel
theorem dX9_fault_20 : decode cX9_fault 20 = .ok (.goto 4, 3) := by decide +kernel
theorem dX9_fault_23 : decode cX9_fault 23 = .ok (.iconst (-1), 1) := by decide +kernel
theorem dX9_fault_24 : decode cX9_fault 24 = .ok (.ireturn, 1) := by decide +kernel
theorem dX9_isAllowed_0 : decode cX9_isAllowed 0 = .ok (.aload_n 0, 1) := by decide +kernel
theorem dX9_isAllowed_1 : decode cX9_isAllowed 1 = .ok (.getfield 64, 3) := by decide +kernel
theorem dX9_isAllowed_4 : decode cX9_isAllowed 4 = .ok (.bipush 52, 2) := by decide +kernel
theorem dX9_isAllowed_6 : decode cX9_isAllowed 6 = .ok (.iload_n 2, 1) := by decide +kernel
theorem dX9_isAllowed_7 : decode cX9_isAllowed 7 = .ok (.imul, 1) := by decide +kernel
theorem dX9_isAllowed_8 : decode cX9_isAllowed 8 = .ok (.iload_n 3, 1) := by decide +kernel
theorem dX9_isAllowed_9 : decode cX9_isAllowed 9 = .ok (.iadd, 1) := by decide +kernel
theorem dX9_isAllowed_10 : decode cX9_isAllowed 10 = .ok (.baload, 1) := by decide +kernel
theorem dX9_isAllowed_11 : decode cX9_isAllowed 11 = .ok (.ifCond .ne 41, 3) := by decide +kernel
theorem dX9_isAllowed_14 : decode cX9_isAllowed 14 = .ok (.aload_n 0, 1) := by decide +kernel
theorem dX9_isAllowed_15 : decode cX9_isAllowed 15 = .ok (.getfield 58, 3) := by decide +kernel
theorem dX9_isAllowed_18 : decode cX9_isAllowed 18 = .ok (.iload_n 2, 1) := by decide +kernel
theorem dX9_isAllowed_19 : decode cX9_isAllowed 19 = .ok (.iaload, 1) := by decide +kernel
theorem dX9_isAllowed_20 : decode cX9_isAllowed 20 = .ok (.iconst (-1), 1) := by decide +kernel
theorem dX9_isAllowed_21 : decode cX9_isAllowed 21 = .ok (.if_icmp .eq 27, 3) := by decide +kernel
theorem dX9_isAllowed_24 : decode cX9_isAllowed 24 = .ok (.aload_n 0, 1) := by decide +kernel
theorem dX9_isAllowed_25 : decode cX9_isAllowed 25 = .ok (.getfield 58, 3) := by decide +kernel
theorem dX9_isAllowed_28 : decode cX9_isAllowed 28 = .ok (.iload_n 2, 1) := by decide +kernel
theorem dX9_isAllowed_29 : decode cX9_isAllowed 29 = .ok (.iaload, 1) := by decide +kernel
theorem dX9_isAllowed_30 : decode cX9_isAllowed 30 = .ok (.iload_n 1, 1) := by decide +kernel
theorem dX9_isAllowed_31 : decode cX9_isAllowed 31 = .ok (.if_icmp .eq 17, 3) := by decide +kernel
theorem dX9_isAllowed_34 : decode cX9_isAllowed 34 = .ok (.aload_n 0, 1) := by decide +kernel
theorem dX9_isAllowed_35 : decode cX9_isAllowed 35 = .ok (.getfield 61, 3) := by decide +kernel
theorem dX9_isAllowed_38 : decode cX9_isAllowed 38 = .ok (.iconst 4, 1) := by decide +kernel
theorem dX9_isAllowed_39 : decode cX9_isAllowed 39 = .ok (.iload_n 2, 1) := by decide +kernel
theorem dX9_isAllowed_40 : decode cX9_isAllowed 40 = .ok (.imul, 1) := by decide +kernel
theorem dX9_isAllowed_41 : decode cX9_isAllowed 41 = .ok (.iload_n 1, 1) := by decide +kernel
theorem dX9_isAllowed_42 : decode cX9_isAllowed 42 = .ok (.iadd, 1) := by decide +kernel
theorem dX9_isAllowed_43 : decode cX9_isAllowed 43 = .ok (.iaload, 1) := by decide +kernel
theorem dX9_isAllowed_44 : decode cX9_isAllowed 44 = .ok (.iload_n 3, 1) := by decide +kernel
theorem dX9_isAllowed_45 : decode cX9_isAllowed 45 = .ok (.if_icmp .lt 7, 3) := by decide +kernel
theorem dX9_isAllowed_48 : decode cX9_isAllowed 48 = .ok (.iconst 1, 1) := by decide +kernel
theorem dX9_isAllowed_49 : decode cX9_isAllowed 49 = .ok (.goto 4, 3) := by decide +kernel
theorem dX9_isAllowed_52 : decode cX9_isAllowed 52 = .ok (.iconst 0, 1) := by decide +kernel
theorem dX9_isAllowed_53 : decode cX9_isAllowed 53 = .ok (.ireturn, 1) := by decide +kernel
theorem dX9_may_0 : decode cX9_may 0 = .ok (.iload_n 1, 1) := by decide +kernel
theorem dX9_may_1 : decode cX9_may 1 = .ok (.invokestatic 100, 3) := by decide +kernel
theorem dX9_may_4 : decode cX9_may 4 = .ok (.ifCond .eq 18, 3) := by decide +kernel
theorem dX9_may_7 : decode cX9_may 7 = .ok (.iload_n 2, 1) := by decide +kernel
theorem dX9_may_8 : decode cX9_may 8 = .ok (.invokestatic 114, 3) := by decide +kernel
theorem dX9_may_11 : decode cX9_may 11 = .ok (.ifCond .eq 11, 3) := by decide +kernel
theorem dX9_may_14 : decode cX9_may 14 = .ok (.iload_n 3, 1) := by decide +kernel
theorem dX9_may_15 : decode cX9_may 15 = .ok (.iconst 0, 1) := by decide +kernel
theorem dX9_may_16 : decode cX9_may 16 = .ok (.invokestatic 107, 3) := by decide +kernel
theorem dX9_may_19 : decode cX9_may 19 = .ok (.ifCond .ne 7, 3) := by decide +kernel
theorem dX9_may_22 : decode cX9_may 22 = .ok (.iconst (-1), 1) := by decide +kernel
theorem dX9_may_23 : decode cX9_may 23 = .ok (.goto 18, 3) := by decide +kernel
theorem dX9_may_26 : decode cX9_may 26 = .ok (.aload_n 0, 1) := by decide +kernel
theorem dX9_may_27 : decode cX9_may 27 = .ok (.iload_n 1, 1) := by decide +kernel
theorem dX9_may_28 : decode cX9_may 28 = .ok (.iload_n 2, 1) := by decide +kernel
theorem dX9_may_29 : decode cX9_may 29 = .ok (.iload_n 3, 1) := by decide +kernel
theorem dX9_may_30 : decode cX9_may 30 = .ok (.invokevirtual 204, 3) := by decide +kernel
theorem dX9_may_33 : decode cX9_may 33 = .ok (.ifCond .eq 7, 3) := by decide +kernel
theorem dX9_may_36 : decode cX9_may 36 = .ok (.iconst 1, 1) := by decide +kernel
theorem dX9_may_37 : decode cX9_may 37 = .ok (.goto 4, 3) := by decide +kernel
theorem dX9_may_40 : decode cX9_may 40 = .ok (.iconst 0, 1) := by decide +kernel
theorem dX9_may_41 : decode cX9_may 41 = .ok (.ireturn, 1) := by decide +kernel
theorem dX9_left_0 : decode cX9_left 0 = .ok (.aload_n 0, 1) := by decide +kernel
theorem dX9_left_1 : decode cX9_left 1 = .ok (.getfield 55, 3) := by decide +kernel
theorem dX9_left_4 : decode cX9_left 4 = .ok (.iload_n 2, 1) := by decide +kernel
theorem dX9_left_5 : decode cX9_left 5 = .ok (.iaload, 1) := by decide +kernel
theorem dX9_left_6 : decode cX9_left 6 = .ok (.iload_n 1, 1) := by decide +kernel
theorem dX9_left_7 : decode cX9_left 7 = .ok (.if_icmp .ne 19, 3) := by decide +kernel
theorem dX9_left_10 : decode cX9_left 10 = .ok (.aload_n 0, 1) := by decide +kernel
theorem dX9_left_11 : decode cX9_left 11 = .ok (.getfield 43, 3) := by decide +kernel
theorem dX9_left_14 : decode cX9_left 14 = .ok (.iload_n 2, 1) := by decide +kernel
theorem dX9_left_15 : decode cX9_left 15 = .ok (.iaload, 1) := by decide +kernel
theorem dX9_left_16 : decode cX9_left 16 = .ok (.aload_n 0, 1) := by decide +kernel
theorem dX9_left_17 : decode cX9_left 17 = .ok (.getfield 52, 3) := by decide +kernel
theorem dX9_left_20 : decode cX9_left 20 = .ok (.iload_n 2, 1) := by decide +kernel
theorem dX9_left_21 : decode cX9_left 21 = .ok (.iaload, 1) := by decide +kernel
theorem dX9_left_22 : decode cX9_left 22 = .ok (.isub, 1) := by decide +kernel
theorem dX9_left_23 : decode cX9_left 23 = .ok (.goto 9, 3) := by decide +kernel
theorem dX9_left_26 : decode cX9_left 26 = .ok (.aload_n 0, 1) := by decide +kernel
theorem dX9_left_27 : decode cX9_left 27 = .ok (.getfield 43, 3) := by decide +kernel
theorem dX9_left_30 : decode cX9_left 30 = .ok (.iload_n 2, 1) := by decide +kernel
theorem dX9_left_31 : decode cX9_left 31 = .ok (.iaload, 1) := by decide +kernel
theorem dX9_left_32 : decode cX9_left 32 = .ok (.ireturn, 1) := by decide +kernel
theorem dX9_sorts_0 : decode cX9_sorts 0 = .ok (.aload_n 0, 1) := by decide +kernel
theorem dX9_sorts_1 : decode cX9_sorts 1 = .ok (.iconst 0, 1) := by decide +kernel
theorem dX9_sorts_2 : decode cX9_sorts 2 = .ok (.putfield 207, 3) := by decide +kernel
theorem dX9_sorts_5 : decode cX9_sorts 5 = .ok (.iconst 0, 1) := by decide +kernel
theorem dX9_sorts_6 : decode cX9_sorts 6 = .ok (.istore_n 2, 1) := by decide +kernel
theorem dX9_sorts_7 : decode cX9_sorts 7 = .ok (.iload_n 2, 1) := by decide +kernel
theorem dX9_sorts_8 : decode cX9_sorts 8 = .ok (.aload_n 0, 1) := by decide +kernel
theorem dX9_sorts_9 : decode cX9_sorts 9 = .ok (.getfield 111, 3) := by decide +kernel
theorem dX9_sorts_12 : decode cX9_sorts 12 = .ok (.if_icmp .ge 88, 3) := by decide +kernel
theorem dX9_sorts_15 : decode cX9_sorts 15 = .ok (.iload_n 1, 1) := by decide +kernel
theorem dX9_sorts_16 : decode cX9_sorts 16 = .ok (.iload_n 2, 1) := by decide +kernel
theorem dX9_sorts_17 : decode cX9_sorts 17 = .ok (.ishr, 1) := by decide +kernel
theorem dX9_sorts_18 : decode cX9_sorts 18 = .ok (.iconst 1, 1) := by decide +kernel
theorem dX9_sorts_19 : decode cX9_sorts 19 = .ok (.iand, 1) := by decide +kernel
theorem dX9_sorts_20 : decode cX9_sorts 20 = .ok (.ifCond .ne 6, 3) := by decide +kernel
theorem dX9_sorts_23 : decode cX9_sorts 23 = .ok (.goto 71, 3) := by decide +kernel
theorem dX9_sorts_26 : decode cX9_sorts 26 = .ok (.aload_n 0, 1) := by decide +kernel
theorem dX9_sorts_27 : decode cX9_sorts 27 = .ok (.getfield 207, 3) := by decide +kernel
theorem dX9_sorts_30 : decode cX9_sorts 30 = .ok (.istore_n 3, 1) := by decide +kernel
theorem dX9_sorts_31 : decode cX9_sorts 31 = .ok (.iload_n 3, 1) := by decide +kernel
theorem dX9_sorts_32 : decode cX9_sorts 32 = .ok (.ifCond .le 45, 3) := by decide +kernel
theorem dX9_sorts_35 : decode cX9_sorts 35 = .ok (.aload_n 0, 1) := by decide +kernel
theorem dX9_sorts_36 : decode cX9_sorts 36 = .ok (.getfield 34, 3) := by decide +kernel
theorem dX9_sorts_39 : decode cX9_sorts 39 = .ok (.aload_n 0, 1) := by decide +kernel
theorem dX9_sorts_40 : decode cX9_sorts 40 = .ok (.getfield 78, 3) := by decide +kernel
theorem dX9_sorts_43 : decode cX9_sorts 43 = .ok (.iload_n 3, 1) := by decide +kernel
theorem dX9_sorts_44 : decode cX9_sorts 44 = .ok (.iconst 1, 1) := by decide +kernel
theorem dX9_sorts_45 : decode cX9_sorts 45 = .ok (.isub, 1) := by decide +kernel
theorem dX9_sorts_46 : decode cX9_sorts 46 = .ok (.iaload, 1) := by decide +kernel
theorem dX9_sorts_47 : decode cX9_sorts 47 = .ok (.iaload, 1) := by decide +kernel
theorem dX9_sorts_48 : decode cX9_sorts 48 = .ok (.aload_n 0, 1) := by decide +kernel
theorem dX9_sorts_49 : decode cX9_sorts 49 = .ok (.getfield 34, 3) := by decide +kernel
theorem dX9_sorts_52 : decode cX9_sorts 52 = .ok (.iload_n 2, 1) := by decide +kernel
theorem dX9_sorts_53 : decode cX9_sorts 53 = .ok (.iaload, 1) := by decide +kernel
theorem dX9_sorts_54 : decode cX9_sorts 54 = .ok (.if_icmp .le 23, 3) := by decide +kernel
theorem dX9_sorts_57 : decode cX9_sorts 57 = .ok (.aload_n 0, 1) := by decide +kernel
theorem dX9_sorts_58 : decode cX9_sorts 58 = .ok (.getfield 78, 3) := by decide +kernel
theorem dX9_sorts_61 : decode cX9_sorts 61 = .ok (.iload_n 3, 1) := by decide +kernel
theorem dX9_sorts_62 : decode cX9_sorts 62 = .ok (.aload_n 0, 1) := by decide +kernel
theorem dX9_sorts_63 : decode cX9_sorts 63 = .ok (.getfield 78, 3) := by decide +kernel
theorem dX9_sorts_66 : decode cX9_sorts 66 = .ok (.iload_n 3, 1) := by decide +kernel
theorem dX9_sorts_67 : decode cX9_sorts 67 = .ok (.iconst 1, 1) := by decide +kernel
theorem dX9_sorts_68 : decode cX9_sorts 68 = .ok (.isub, 1) := by decide +kernel
theorem dX9_sorts_69 : decode cX9_sorts 69 = .ok (.iaload, 1) := by decide +kernel
theorem dX9_sorts_70 : decode cX9_sorts 70 = .ok (.iastore, 1) := by decide +kernel
theorem dX9_sorts_71 : decode cX9_sorts 71 = .ok (.iinc 3 (-1), 3) := by decide +kernel
theorem dX9_sorts_74 : decode cX9_sorts 74 = .ok (.goto (-43), 3) := by decide +kernel
theorem dX9_sorts_77 : decode cX9_sorts 77 = .ok (.aload_n 0, 1) := by decide +kernel
theorem dX9_sorts_78 : decode cX9_sorts 78 = .ok (.getfield 78, 3) := by decide +kernel
theorem dX9_sorts_81 : decode cX9_sorts 81 = .ok (.iload_n 3, 1) := by decide +kernel
theorem dX9_sorts_82 : decode cX9_sorts 82 = .ok (.iload_n 2, 1) := by decide +kernel
theorem dX9_sorts_83 : decode cX9_sorts 83 = .ok (.iastore, 1) := by decide +kernel
theorem dX9_sorts_84 : decode cX9_sorts 84 = .ok (.aload_n 0, 1) := by decide +kernel
theorem dX9_sorts_85 : decode cX9_sorts 85 = .ok (.dup, 1) := by decide +kernel
theorem dX9_sorts_86 : decode cX9_sorts 86 = .ok (.getfield 207, 3) := by decide +kernel
theorem dX9_sorts_89 : decode cX9_sorts 89 = .ok (.iconst 1, 1) := by decide +kernel
theorem dX9_sorts_90 : decode cX9_sorts 90 = .ok (.iadd, 1) := by decide +kernel
theorem dX9_sorts_91 : decode cX9_sorts 91 = .ok (.putfield 207, 3) := by decide +kernel
theorem dX9_sorts_94 : decode cX9_sorts 94 = .ok (.iinc 2 1, 3) := by decide +kernel
theorem dX9_sorts_97 : decode cX9_sorts 97 = .ok (.goto (-90), 3) := by decide +kernel
theorem dX9_sorts_100 : decode cX9_sorts 100 = .ok (.return_, 1) := by decide +kernel
theorem dX9_does_0 : decode cX9_does 0 = .ok (.aload_n 0, 1) := by decide +kernel
theorem dX9_does_1 : decode cX9_does 1 = .ok (.iload_n 2, 1) := by decide +kernel
theorem dX9_does_2 : decode cX9_does 2 = .ok (.invokevirtual 210, 3) := by decide +kernel
theorem dX9_does_5 : decode cX9_does 5 = .ok (.iconst 0, 1) := by decide +kernel
theorem dX9_does_6 : decode cX9_does 6 = .ok (.istore_n 3, 1) := by decide +kernel
theorem dX9_does_7 : decode cX9_does 7 = .ok (.aload_n 0, 1) := by decide +kernel
theorem dX9_does_8 : decode cX9_does 8 = .ok (.getfield 104, 3) := by decide +kernel
theorem dX9_does_11 : decode cX9_does 11 = .ok (.istore 4, 2) := by decide +kernel
theorem dX9_does_13 : decode cX9_does 13 = .ok (.aload_n 0, 1) := by decide +kernel
theorem dX9_does_14 : decode cX9_does 14 = .ok (.getfield 7, 3) := by decide +kernel
theorem dX9_does_17 : decode cX9_does 17 = .ok (.bipush 52, 2) := by decide +kernel
theorem dX9_does_19 : decode cX9_does 19 = .ok (.iload_n 1, 1) := by decide +kernel
theorem dX9_does_20 : decode cX9_does 20 = .ok (.imul, 1) := by decide +kernel
theorem dX9_does_21 : decode cX9_does 21 = .ok (.aload_n 0, 1) := by decide +kernel
theorem dX9_does_22 : decode cX9_does 22 = .ok (.getfield 104, 3) := by decide +kernel
theorem dX9_does_25 : decode cX9_does 25 = .ok (.iadd, 1) := by decide +kernel
theorem dX9_does_26 : decode cX9_does 26 = .ok (.iaload, 1) := by decide +kernel
theorem dX9_does_27 : decode cX9_does 27 = .ok (.istore 5, 2) := by decide +kernel
theorem dX9_does_29 : decode cX9_does 29 = .ok (.iconst 0, 1) := by decide +kernel
theorem dX9_does_30 : decode cX9_does 30 = .ok (.istore 6, 2) := by decide +kernel
theorem dX9_does_32 : decode cX9_does 32 = .ok (.iload 6, 2) := by decide +kernel
theorem dX9_does_34 : decode cX9_does 34 = .ok (.aload_n 0, 1) := by decide +kernel
theorem dX9_does_35 : decode cX9_does 35 = .ok (.getfield 207, 3) := by decide +kernel
theorem dX9_does_38 : decode cX9_does 38 = .ok (.if_icmp .ge 194, 3) := by decide +kernel
theorem dX9_does_41 : decode cX9_does 41 = .ok (.aload_n 0, 1) := by decide +kernel
theorem dX9_does_42 : decode cX9_does 42 = .ok (.getfield 78, 3) := by decide +kernel
theorem dX9_does_45 : decode cX9_does 45 = .ok (.iload 6, 2) := by decide +kernel
theorem dX9_does_47 : decode cX9_does 47 = .ok (.iaload, 1) := by decide +kernel
theorem dX9_does_48 : decode cX9_does 48 = .ok (.istore 7, 2) := by decide +kernel
theorem dX9_does_50 : decode cX9_does 50 = .ok (.iload_n 3, 1) := by decide +kernel
theorem dX9_does_51 : decode cX9_does 51 = .ok (.aload_n 0, 1) := by decide +kernel
theorem dX9_does_52 : decode cX9_does 52 = .ok (.getfield 46, 3) := by decide +kernel
theorem dX9_does_55 : decode cX9_does 55 = .ok (.iload 7, 2) := by decide +kernel
theorem dX9_does_57 : decode cX9_does 57 = .ok (.iaload, 1) := by decide +kernel
theorem dX9_does_58 : decode cX9_does 58 = .ok (.iadd, 1) := by decide +kernel
theorem dX9_does_59 : decode cX9_does 59 = .ok (.istore_n 3, 1) := by decide +kernel
theorem dX9_does_60 : decode cX9_does 60 = .ok (.iload_n 3, 1) := by decide +kernel
theorem dX9_does_61 : decode cX9_does 61 = .ok (.aload_n 0, 1) := by decide +kernel
theorem dX9_does_62 : decode cX9_does 62 = .ok (.getfield 13, 3) := by decide +kernel
theorem dX9_does_65 : decode cX9_does 65 = .ok (.iload_n 1, 1) := by decide +kernel
theorem dX9_does_66 : decode cX9_does 66 = .ok (.iaload, 1) := by decide +kernel
theorem dX9_does_67 : decode cX9_does 67 = .ok (.if_icmp .le 5, 3) := by decide +kernel
theorem dX9_does_70 : decode cX9_does 70 = .ok (.iconst 0, 1) := by decide +kernel
theorem dX9_does_71 : decode cX9_does 71 = .ok (.ireturn, 1) := by decide +kernel
theorem dX9_does_72 : decode cX9_does 72 = .ok (.iload 5, 2) := by decide +kernel
theorem dX9_does_74 : decode cX9_does 74 = .ok (.ifCond .ne 30, 3) := by decide +kernel
theorem dX9_does_77 : decode cX9_does 77 = .ok (.iload 4, 2) := by decide +kernel
theorem dX9_does_79 : decode cX9_does 79 = .ok (.bipush 51, 2) := by decide +kernel
theorem dX9_does_81 : decode cX9_does 81 = .ok (.if_icmp .ge 23, 3) := by decide +kernel
theorem dX9_does_84 : decode cX9_does 84 = .ok (.iinc 4 1, 3) := by decide +kernel
theorem dX9_does_87 : decode cX9_does 87 = .ok (.aload_n 0, 1) := by decide +kernel
theorem dX9_does_88 : decode cX9_does 88 = .ok (.getfield 7, 3) := by decide +kernel
theorem dX9_does_91 : decode cX9_does 91 = .ok (.bipush 52, 2) := by decide +kernel
theorem dX9_does_93 : decode cX9_does 93 = .ok (.iload_n 1, 1) := by decide +kernel
theorem dX9_does_94 : decode cX9_does 94 = .ok (.imul, 1) := by decide +kernel
theorem dX9_does_95 : decode cX9_does 95 = .ok (.iload 4, 2) := by decide +kernel
theorem dX9_does_97 : decode cX9_does 97 = .ok (.iadd, 1) := by decide +kernel
theorem dX9_does_98 : decode cX9_does 98 = .ok (.iaload, 1) := by decide +kernel
theorem dX9_does_99 : decode cX9_does 99 = .ok (.istore 5, 2) := by decide +kernel
theorem dX9_does_101 : decode cX9_does 101 = .ok (.goto (-29), 3) := by decide +kernel
theorem dX9_does_104 : decode cX9_does 104 = .ok (.iload 4, 2) := by decide +kernel
theorem dX9_does_106 : decode cX9_does 106 = .ok (.istore 8, 2) := by decide +kernel
theorem dX9_does_108 : decode cX9_does 108 = .ok (.aload_n 0, 1) := by decide +kernel
theorem dX9_does_109 : decode cX9_does 109 = .ok (.iload_n 1, 1) := by decide +kernel
theorem dX9_does_110 : decode cX9_does 110 = .ok (.iload 7, 2) := by decide +kernel
theorem dX9_does_112 : decode cX9_does 112 = .ok (.invokevirtual 213, 3) := by decide +kernel
theorem dX9_does_115 : decode cX9_does 115 = .ok (.istore 9, 2) := by decide +kernel
theorem dX9_does_117 : decode cX9_does 117 = .ok (.iload 9, 2) := by decide +kernel
theorem dX9_does_119 : decode cX9_does 119 = .ok (.iload 5, 2) := by decide +kernel
theorem dX9_does_121 : decode cX9_does 121 = .ok (.if_icmp .le 39, 3) := by decide +kernel
theorem dX9_does_124 : decode cX9_does 124 = .ok (.iload 4, 2) := by decide +kernel
theorem dX9_does_126 : decode cX9_does 126 = .ok (.bipush 51, 2) := by decide +kernel
theorem dX9_does_128 : decode cX9_does 128 = .ok (.if_icmp .ne 5, 3) := by decide +kernel
theorem dX9_does_131 : decode cX9_does 131 = .ok (.iconst 0, 1) := by decide +kernel
theorem dX9_does_132 : decode cX9_does 132 = .ok (.ireturn, 1) := by decide +kernel
theorem dX9_does_133 : decode cX9_does 133 = .ok (.iload 9, 2) := by decide +kernel
theorem dX9_does_135 : decode cX9_does 135 = .ok (.iload 5, 2) := by decide +kernel
theorem dX9_does_137 : decode cX9_does 137 = .ok (.isub, 1) := by decide +kernel
theorem dX9_does_138 : decode cX9_does 138 = .ok (.istore 9, 2) := by decide +kernel
theorem dX9_does_140 : decode cX9_does 140 = .ok (.iinc 4 1, 3) := by decide +kernel
theorem dX9_does_143 : decode cX9_does 143 = .ok (.aload_n 0, 1) := by decide +kernel
theorem dX9_does_144 : decode cX9_does 144 = .ok (.getfield 7, 3) := by decide +kernel
theorem dX9_does_147 : decode cX9_does 147 = .ok (.bipush 52, 2) := by decide +kernel
theorem dX9_does_149 : decode cX9_does 149 = .ok (.iload_n 1, 1) := by decide +kernel
theorem dX9_does_150 : decode cX9_does 150 = .ok (.imul, 1) := by decide +kernel
theorem dX9_does_151 : decode cX9_does 151 = .ok (.iload 4, 2) := by decide +kernel
theorem dX9_does_153 : decode cX9_does 153 = .ok (.iadd, 1) := by decide +kernel
theorem dX9_does_154 : decode cX9_does 154 = .ok (.iaload, 1) := by decide +kernel
theorem dX9_does_155 : decode cX9_does 155 = .ok (.istore 5, 2) := by decide +kernel
theorem dX9_does_157 : decode cX9_does 157 = .ok (.goto (-40), 3) := by decide +kernel
theorem dX9_does_160 : decode cX9_does 160 = .ok (.iload 5, 2) := by decide +kernel
theorem dX9_does_162 : decode cX9_does 162 = .ok (.iload 9, 2) := by decide +kernel
theorem dX9_does_164 : decode cX9_does 164 = .ok (.isub, 1) := by decide +kernel
theorem dX9_does_165 : decode cX9_does 165 = .ok (.istore 5, 2) := by decide +kernel
theorem dX9_does_167 : decode cX9_does 167 = .ok (.aload_n 0, 1) := by decide +kernel
theorem dX9_does_168 : decode cX9_does 168 = .ok (.getfield 81, 3) := by decide +kernel
theorem dX9_does_171 : decode cX9_does 171 = .ok (.iload 7, 2) := by decide +kernel
theorem dX9_does_173 : decode cX9_does 173 = .ok (.iload 4, 2) := by decide +kernel
theorem dX9_does_175 : decode cX9_does 175 = .ok (.iastore, 1) := by decide +kernel
theorem dX9_does_176 : decode cX9_does 176 = .ok (.iload 4, 2) := by decide +kernel
theorem dX9_does_178 : decode cX9_does 178 = .ok (.aload_n 0, 1) := by decide +kernel
theorem dX9_does_179 : decode cX9_does 179 = .ok (.getfield 34, 3) := by decide +kernel
theorem dX9_does_182 : decode cX9_does 182 = .ok (.iload 7, 2) := by decide +kernel
theorem dX9_does_184 : decode cX9_does 184 = .ok (.iaload, 1) := by decide +kernel
theorem dX9_does_185 : decode cX9_does 185 = .ok (.if_icmp .le 5, 3) := by decide +kernel
theorem dX9_does_188 : decode cX9_does 188 = .ok (.iconst 0, 1) := by decide +kernel
theorem dX9_does_189 : decode cX9_does 189 = .ok (.ireturn, 1) := by decide +kernel
theorem dX9_does_190 : decode cX9_does 190 = .ok (.iload 8, 2) := by decide +kernel
theorem dX9_does_192 : decode cX9_does 192 = .ok (.istore 10, 2) := by decide +kernel
theorem dX9_does_194 : decode cX9_does 194 = .ok (.iload 10, 2) := by decide +kernel
theorem dX9_does_196 : decode cX9_does 196 = .ok (.iload 4, 2) := by decide +kernel
theorem dX9_does_198 : decode cX9_does 198 = .ok (.if_icmp .gt 28, 3) := by decide +kernel
theorem dX9_does_201 : decode cX9_does 201 = .ok (.aload_n 0, 1) := by decide +kernel
theorem dX9_does_202 : decode cX9_does 202 = .ok (.iload_n 1, 1) := by decide +kernel
theorem dX9_does_203 : decode cX9_does 203 = .ok (.aload_n 0, 1) := by decide +kernel
theorem dX9_does_204 : decode cX9_does 204 = .ok (.getfield 28, 3) := by decide +kernel
theorem dX9_does_207 : decode cX9_does 207 = .ok (.iload 7, 2) := by decide +kernel
theorem dX9_does_209 : decode cX9_does 209 = .ok (.iaload, 1) := by decide +kernel
theorem dX9_does_210 : decode cX9_does 210 = .ok (.iload 10, 2) := by decide +kernel
theorem dX9_does_212 : decode cX9_does 212 = .ok (.invokevirtual 204, 3) := by decide +kernel
theorem dX9_does_215 : decode cX9_does 215 = .ok (.ifCond .ne 5, 3) := by decide +kernel
theorem dX9_does_218 : decode cX9_does 218 = .ok (.iconst 0, 1) := by decide +kernel
theorem dX9_does_219 : decode cX9_does 219 = .ok (.ireturn, 1) := by decide +kernel
theorem dX9_does_220 : decode cX9_does 220 = .ok (.iinc 10 1, 3) := by decide +kernel
theorem dX9_does_223 : decode cX9_does 223 = .ok (.goto (-29), 3) := by decide +kernel
theorem dX9_does_226 : decode cX9_does 226 = .ok (.iinc 6 1, 3) := by decide +kernel
theorem dX9_does_229 : decode cX9_does 229 = .ok (.goto (-197), 3) := by decide +kernel
theorem dX9_does_232 : decode cX9_does 232 = .ok (.iconst 1, 1) := by decide +kernel
theorem dX9_does_233 : decode cX9_does 233 = .ok (.ireturn, 1) := by decide +kernel
theorem dX9_canAll_0 : decode cX9_canAll 0 = .ok (.aload_n 0, 1) := by decide +kernel
theorem dX9_canAll_1 : decode cX9_canAll 1 = .ok (.getfield 84, 3) := by decide +kernel
theorem dX9_canAll_4 : decode cX9_canAll 4 = .ok (.aload_n 0, 1) := by decide +kernel
theorem dX9_canAll_5 : decode cX9_canAll 5 = .ok (.getfield 93, 3) := by decide +kernel
theorem dX9_canAll_8 : decode cX9_canAll 8 = .ok (.iconst 0, 1) := by decide +kernel
theorem dX9_canAll_9 : decode cX9_canAll 9 = .ok (.iaload, 1) := by decide +kernel
theorem dX9_canAll_10 : decode cX9_canAll 10 = .ok (.baload, 1) := by decide +kernel
theorem dX9_canAll_11 : decode cX9_canAll 11 = .ok (.ifCond .eq 61, 3) := by decide +kernel
theorem dX9_canAll_14 : decode cX9_canAll 14 = .ok (.aload_n 0, 1) := by decide +kernel
theorem dX9_canAll_15 : decode cX9_canAll 15 = .ok (.getfield 84, 3) := by decide +kernel
theorem dX9_canAll_18 : decode cX9_canAll 18 = .ok (.sipush 128, 3) := by decide +kernel
theorem dX9_canAll_21 : decode cX9_canAll 21 = .ok (.aload_n 0, 1) := by decide +kernel
theorem dX9_canAll_22 : decode cX9_canAll 22 = .ok (.getfield 93, 3) := by decide +kernel
theorem dX9_canAll_25 : decode cX9_canAll 25 = .ok (.iconst 1, 1) := by decide +kernel
theorem dX9_canAll_26 : decode cX9_canAll 26 = .ok (.iaload, 1) := by decide +kernel
theorem dX9_canAll_27 : decode cX9_canAll 27 = .ok (.iadd, 1) := by decide +kernel
theorem dX9_canAll_28 : decode cX9_canAll 28 = .ok (.baload, 1) := by decide +kernel
theorem dX9_canAll_29 : decode cX9_canAll 29 = .ok (.ifCond .eq 43, 3) := by decide +kernel
theorem dX9_canAll_32 : decode cX9_canAll 32 = .ok (.aload_n 0, 1) := by decide +kernel
theorem dX9_canAll_33 : decode cX9_canAll 33 = .ok (.getfield 84, 3) := by decide +kernel
theorem dX9_canAll_36 : decode cX9_canAll 36 = .ok (.sipush 256, 3) := by decide +kernel
theorem dX9_canAll_39 : decode cX9_canAll 39 = .ok (.aload_n 0, 1) := by decide +kernel
theorem dX9_canAll_40 : decode cX9_canAll 40 = .ok (.getfield 93, 3) := by decide +kernel
theorem dX9_canAll_43 : decode cX9_canAll 43 = .ok (.iconst 2, 1) := by decide +kernel
theorem dX9_canAll_44 : decode cX9_canAll 44 = .ok (.iaload, 1) := by decide +kernel
theorem dX9_canAll_45 : decode cX9_canAll 45 = .ok (.iadd, 1) := by decide +kernel
theorem dX9_canAll_46 : decode cX9_canAll 46 = .ok (.baload, 1) := by decide +kernel
theorem dX9_canAll_47 : decode cX9_canAll 47 = .ok (.ifCond .eq 25, 3) := by decide +kernel
theorem dX9_canAll_50 : decode cX9_canAll 50 = .ok (.aload_n 0, 1) := by decide +kernel
theorem dX9_canAll_51 : decode cX9_canAll 51 = .ok (.getfield 84, 3) := by decide +kernel
theorem dX9_canAll_54 : decode cX9_canAll 54 = .ok (.sipush 384, 3) := by decide +kernel
theorem dX9_canAll_57 : decode cX9_canAll 57 = .ok (.aload_n 0, 1) := by decide +kernel
theorem dX9_canAll_58 : decode cX9_canAll 58 = .ok (.getfield 93, 3) := by decide +kernel
theorem dX9_canAll_61 : decode cX9_canAll 61 = .ok (.iconst 3, 1) := by decide +kernel
theorem dX9_canAll_62 : decode cX9_canAll 62 = .ok (.iaload, 1) := by decide +kernel
theorem dX9_canAll_63 : decode cX9_canAll 63 = .ok (.iadd, 1) := by decide +kernel
theorem dX9_canAll_64 : decode cX9_canAll 64 = .ok (.baload, 1) := by decide +kernel
theorem dX9_canAll_65 : decode cX9_canAll 65 = .ok (.ifCond .eq 7, 3) := by decide +kernel
theorem dX9_canAll_68 : decode cX9_canAll 68 = .ok (.iconst 1, 1) := by decide +kernel
theorem dX9_canAll_69 : decode cX9_canAll 69 = .ok (.goto 4, 3) := by decide +kernel
theorem dX9_canAll_72 : decode cX9_canAll 72 = .ok (.iconst 0, 1) := by decide +kernel
theorem dX9_canAll_73 : decode cX9_canAll 73 = .ok (.ireturn, 1) := by decide +kernel
theorem dX9_tries_0 : decode cX9_tries 0 = .ok (.iload_n 1, 1) := by decide +kernel
theorem dX9_tries_1 : decode cX9_tries 1 = .ok (.aload_n 0, 1) := by decide +kernel
theorem dX9_tries_2 : decode cX9_tries 2 = .ok (.getfield 111, 3) := by decide +kernel
theorem dX9_tries_5 : decode cX9_tries 5 = .ok (.if_icmp .ne 78, 3) := by decide +kernel
theorem dX9_tries_8 : decode cX9_tries 8 = .ok (.iload_n 2, 1) := by decide +kernel
theorem dX9_tries_9 : decode cX9_tries 9 = .ok (.aload_n 0, 1) := by decide +kernel
theorem dX9_tries_10 : decode cX9_tries 10 = .ok (.getfield 217, 3) := by decide +kernel
theorem dX9_tries_13 : decode cX9_tries 13 = .ok (.if_icmp .lt 26, 3) := by decide +kernel
theorem dX9_tries_16 : decode cX9_tries 16 = .ok (.iload_n 2, 1) := by decide +kernel
theorem dX9_tries_17 : decode cX9_tries 17 = .ok (.aload_n 0, 1) := by decide +kernel
theorem dX9_tries_18 : decode cX9_tries 18 = .ok (.getfield 217, 3) := by decide +kernel
theorem dX9_tries_21 : decode cX9_tries 21 = .ok (.if_icmp .ne 11, 3) := by decide +kernel
theorem dX9_tries_24 : decode cX9_tries 24 = .ok (.iload_n 3, 1) := by decide +kernel
theorem dX9_tries_25 : decode cX9_tries 25 = .ok (.aload_n 0, 1) := by decide +kernel
theorem dX9_tries_26 : decode cX9_tries 26 = .ok (.getfield 220, 3) := by decide +kernel
theorem dX9_tries_29 : decode cX9_tries 29 = .ok (.if_icmp .ge 10, 3) := by decide +kernel
theorem dX9_tries_32 : decode cX9_tries 32 = .ok (.aload_n 0, 1) := by decide +kernel
theorem dX9_tries_33 : decode cX9_tries 33 = .ok (.invokevirtual 223, 3) := by decide +kernel
theorem dX9_tries_36 : decode cX9_tries 36 = .ok (.ifCond .ne 4, 3) := by decide +kernel
theorem dX9_tries_39 : decode cX9_tries 39 = .ok (.return_, 1) := by decide +kernel
theorem dX9_tries_40 : decode cX9_tries 40 = .ok (.aload_n 0, 1) := by decide +kernel
theorem dX9_tries_41 : decode cX9_tries 41 = .ok (.iload_n 2, 1) := by decide +kernel
theorem dX9_tries_42 : decode cX9_tries 42 = .ok (.putfield 217, 3) := by decide +kernel
theorem dX9_tries_45 : decode cX9_tries 45 = .ok (.aload_n 0, 1) := by decide +kernel
theorem dX9_tries_46 : decode cX9_tries 46 = .ok (.iload_n 3, 1) := by decide +kernel
theorem dX9_tries_47 : decode cX9_tries 47 = .ok (.putfield 220, 3) := by decide +kernel
theorem dX9_tries_50 : decode cX9_tries 50 = .ok (.iconst 0, 1) := by decide +kernel
theorem dX9_tries_51 : decode cX9_tries 51 = .ok (.istore 4, 2) := by decide +kernel
theorem dX9_tries_53 : decode cX9_tries 53 = .ok (.iload 4, 2) := by decide +kernel
theorem dX9_tries_55 : decode cX9_tries 55 = .ok (.aload_n 0, 1) := by decide +kernel
theorem dX9_tries_56 : decode cX9_tries 56 = .ok (.getfield 111, 3) := by decide +kernel
theorem dX9_tries_59 : decode cX9_tries 59 = .ok (.if_icmp .ge 23, 3) := by decide +kernel
theorem dX9_tries_62 : decode cX9_tries 62 = .ok (.aload_n 0, 1) := by decide +kernel
theorem dX9_tries_63 : decode cX9_tries 63 = .ok (.getfield 90, 3) := by decide +kernel
theorem dX9_tries_66 : decode cX9_tries 66 = .ok (.iload 4, 2) := by decide +kernel
theorem dX9_tries_68 : decode cX9_tries 68 = .ok (.aload_n 0, 1) := by decide +kernel
theorem dX9_tries_69 : decode cX9_tries 69 = .ok (.getfield 87, 3) := by decide +kernel
theorem dX9_tries_72 : decode cX9_tries 72 = .ok (.iload 4, 2) := by decide +kernel
theorem dX9_tries_74 : decode cX9_tries 74 = .ok (.iaload, 1) := by decide +kernel
theorem dX9_tries_75 : decode cX9_tries 75 = .ok (.iastore, 1) := by decide +kernel
theorem dX9_tries_76 : decode cX9_tries 76 = .ok (.iinc 4 1, 3) := by decide +kernel
theorem dX9_tries_79 : decode cX9_tries 79 = .ok (.goto (-26), 3) := by decide +kernel
theorem dX9_tries_82 : decode cX9_tries 82 = .ok (.return_, 1) := by decide +kernel
theorem dX9_tries_83 : decode cX9_tries 83 = .ok (.iconst 0, 1) := by decide +kernel
theorem dX9_tries_84 : decode cX9_tries 84 = .ok (.istore 4, 2) := by decide +kernel
theorem dX9_tries_86 : decode cX9_tries 86 = .ok (.iload 4, 2) := by decide +kernel
theorem dX9_tries_88 : decode cX9_tries 88 = .ok (.iconst 4, 1) := by decide +kernel
theorem dX9_tries_89 : decode cX9_tries 89 = .ok (.if_icmp .ge 77, 3) := by decide +kernel
theorem dX9_tries_92 : decode cX9_tries 92 = .ok (.aload_n 0, 1) := by decide +kernel
theorem dX9_tries_93 : decode cX9_tries 93 = .ok (.iload_n 1, 1) := by decide +kernel
theorem dX9_tries_94 : decode cX9_tries 94 = .ok (.invokevirtual 117, 3) := by decide +kernel
theorem dX9_tries_97 : decode cX9_tries 97 = .ok (.ifCond .eq 69, 3) := by decide +kernel
theorem dX9_tries_100 : decode cX9_tries 100 = .ok (.aload_n 0, 1) := by decide +kernel
theorem dX9_tries_101 : decode cX9_tries 101 = .ok (.getfield 93, 3) := by decide +kernel
theorem dX9_tries_104 : decode cX9_tries 104 = .ok (.iload 4, 2) := by decide +kernel
theorem dX9_tries_106 : decode cX9_tries 106 = .ok (.dup2, 1) := by decide +kernel
theorem dX9_tries_107 : decode cX9_tries 107 = .ok (.iaload, 1) := by decide +kernel
theorem dX9_tries_108 : decode cX9_tries 108 = .ok (.iconst 1, 1) := by decide +kernel
theorem dX9_tries_109 : decode cX9_tries 109 = .ok (.iload_n 1, 1) := by decide +kernel
theorem dX9_tries_110 : decode cX9_tries 110 = .ok (.ishl, 1) := by decide +kernel
theorem dX9_tries_111 : decode cX9_tries 111 = .ok (.ior, 1) := by decide +kernel
theorem dX9_tries_112 : decode cX9_tries 112 = .ok (.iastore, 1) := by decide +kernel
theorem dX9_tries_113 : decode cX9_tries 113 = .ok (.aload_n 0, 1) := by decide +kernel
theorem dX9_tries_114 : decode cX9_tries 114 = .ok (.getfield 87, 3) := by decide +kernel
theorem dX9_tries_117 : decode cX9_tries 117 = .ok (.iload_n 1, 1) := by decide +kernel
theorem dX9_tries_118 : decode cX9_tries 118 = .ok (.iload 4, 2) := by decide +kernel
theorem dX9_tries_120 : decode cX9_tries 120 = .ok (.iastore, 1) := by decide +kernel
theorem dX9_tries_121 : decode cX9_tries 121 = .ok (.aload_n 0, 1) := by decide +kernel
theorem dX9_tries_122 : decode cX9_tries 122 = .ok (.iload_n 1, 1) := by decide +kernel
theorem dX9_tries_123 : decode cX9_tries 123 = .ok (.iconst 1, 1) := by decide +kernel
theorem dX9_tries_124 : decode cX9_tries 124 = .ok (.iadd, 1) := by decide +kernel
theorem dX9_tries_125 : decode cX9_tries 125 = .ok (.iload_n 2, 1) := by decide +kernel
theorem dX9_tries_126 : decode cX9_tries 126 = .ok (.aload_n 0, 1) := by decide +kernel
theorem dX9_tries_127 : decode cX9_tries 127 = .ok (.getfield 37, 3) := by decide +kernel
theorem dX9_tries_130 : decode cX9_tries 130 = .ok (.iload_n 1, 1) := by decide +kernel
theorem dX9_tries_131 : decode cX9_tries 131 = .ok (.iaload, 1) := by decide +kernel
theorem dX9_tries_132 : decode cX9_tries 132 = .ok (.iadd, 1) := by decide +kernel
theorem dX9_tries_133 : decode cX9_tries 133 = .ok (.iload_n 3, 1) := by decide +kernel
theorem dX9_tries_134 : decode cX9_tries 134 = .ok (.aload_n 0, 1) := by decide +kernel
theorem dX9_tries_135 : decode cX9_tries 135 = .ok (.iload 4, 2) := by decide +kernel
theorem dX9_tries_137 : decode cX9_tries 137 = .ok (.iload_n 1, 1) := by decide +kernel
theorem dX9_tries_138 : decode cX9_tries 138 = .ok (.invokevirtual 213, 3) := by decide +kernel
theorem dX9_tries_141 : decode cX9_tries 141 = .ok (.iadd, 1) := by decide +kernel
theorem dX9_tries_142 : decode cX9_tries 142 = .ok (.invokevirtual 226, 3) := by decide +kernel
theorem dX9_tries_145 : decode cX9_tries 145 = .ok (.aload_n 0, 1) := by decide +kernel
theorem dX9_tries_146 : decode cX9_tries 146 = .ok (.getfield 93, 3) := by decide +kernel
theorem dX9_tries_149 : decode cX9_tries 149 = .ok (.iload 4, 2) := by decide +kernel
theorem dX9_tries_151 : decode cX9_tries 151 = .ok (.dup2, 1) := by decide +kernel
theorem dX9_tries_152 : decode cX9_tries 152 = .ok (.iaload, 1) := by decide +kernel
theorem dX9_tries_153 : decode cX9_tries 153 = .ok (.iconst 1, 1) := by decide +kernel
theorem dX9_tries_154 : decode cX9_tries 154 = .ok (.iload_n 1, 1) := by decide +kernel
theorem dX9_tries_155 : decode cX9_tries 155 = .ok (.ishl, 1) := by decide +kernel
theorem dX9_tries_156 : decode cX9_tries 156 = .ok (.iconst (-1), 1) := by decide +kernel
theorem dX9_tries_157 : decode cX9_tries 157 = .ok (.ixor, 1) := by decide +kernel
theorem dX9_tries_158 : decode cX9_tries 158 = .ok (.iand, 1) := by decide +kernel
theorem dX9_tries_159 : decode cX9_tries 159 = .ok (.iastore, 1) := by decide +kernel
theorem dX9_tries_160 : decode cX9_tries 160 = .ok (.iinc 4 1, 3) := by decide +kernel
theorem dX9_tries_163 : decode cX9_tries 163 = .ok (.goto (-77), 3) := by decide +kernel
theorem dX9_tries_166 : decode cX9_tries 166 = .ok (.aload_n 0, 1) := by decide +kernel
theorem dX9_tries_167 : decode cX9_tries 167 = .ok (.getfield 87, 3) := by decide +kernel
theorem dX9_tries_170 : decode cX9_tries 170 = .ok (.iload_n 1, 1) := by decide +kernel
theorem dX9_tries_171 : decode cX9_tries 171 = .ok (.iconst (-1), 1) := by decide +kernel
theorem dX9_tries_172 : decode cX9_tries 172 = .ok (.iastore, 1) := by decide +kernel
theorem dX9_tries_173 : decode cX9_tries 173 = .ok (.aload_n 0, 1) := by decide +kernel
theorem dX9_tries_174 : decode cX9_tries 174 = .ok (.iload_n 1, 1) := by decide +kernel
theorem dX9_tries_175 : decode cX9_tries 175 = .ok (.iconst 1, 1) := by decide +kernel
theorem dX9_tries_176 : decode cX9_tries 176 = .ok (.iadd, 1) := by decide +kernel
theorem dX9_tries_177 : decode cX9_tries 177 = .ok (.iload_n 2, 1) := by decide +kernel
theorem dX9_tries_178 : decode cX9_tries 178 = .ok (.iload_n 3, 1) := by decide +kernel
theorem dX9_tries_179 : decode cX9_tries 179 = .ok (.invokevirtual 226, 3) := by decide +kernel
theorem dX9_tries_182 : decode cX9_tries 182 = .ok (.return_, 1) := by decide +kernel
theorem dX9_finds_0 : decode cX9_finds 0 = .ok (.iconst 0, 1) := by decide +kernel
theorem dX9_finds_1 : decode cX9_finds 1 = .ok (.istore_n 1, 1) := by decide +kernel
theorem dX9_finds_2 : decode cX9_finds 2 = .ok (.iload_n 1, 1) := by decide +kernel
theorem dX9_finds_3 : decode cX9_finds 3 = .ok (.iconst 4, 1) := by decide +kernel
theorem dX9_finds_4 : decode cX9_finds 4 = .ok (.if_icmp .ge 52, 3) := by decide +kernel
theorem dX9_finds_7 : decode cX9_finds 7 = .ok (.aload_n 0, 1) := by decide +kernel
theorem dX9_finds_8 : decode cX9_finds 8 = .ok (.getfield 93, 3) := by decide +kernel
theorem dX9_finds_11 : decode cX9_finds 11 = .ok (.iload_n 1, 1) := by decide +kernel
theorem dX9_finds_12 : decode cX9_finds 12 = .ok (.iconst 0, 1) := by decide +kernel
theorem dX9_finds_13 : decode cX9_finds 13 = .ok (.iastore, 1) := by decide +kernel
theorem dX9_finds_14 : decode cX9_finds 14 = .ok (.iconst 0, 1) := by decide +kernel
theorem dX9_finds_15 : decode cX9_finds 15 = .ok (.istore_n 2, 1) := by decide +kernel
theorem dX9_finds_16 : decode cX9_finds 16 = .ok (.iload_n 2, 1) := by decide +kernel
theorem dX9_finds_17 : decode cX9_finds 17 = .ok (.iconst 1, 1) := by decide +kernel
theorem dX9_finds_18 : decode cX9_finds 18 = .ok (.aload_n 0, 1) := by decide +kernel
theorem dX9_finds_19 : decode cX9_finds 19 = .ok (.getfield 111, 3) := by decide +kernel
theorem dX9_finds_22 : decode cX9_finds 22 = .ok (.ishl, 1) := by decide +kernel
theorem dX9_finds_23 : decode cX9_finds 23 = .ok (.if_icmp .ge 27, 3) := by decide +kernel
theorem dX9_finds_26 : decode cX9_finds 26 = .ok (.aload_n 0, 1) := by decide +kernel
theorem dX9_finds_27 : decode cX9_finds 27 = .ok (.getfield 84, 3) := by decide +kernel
theorem dX9_finds_30 : decode cX9_finds 30 = .ok (.sipush 128, 3) := by decide +kernel
theorem dX9_finds_33 : decode cX9_finds 33 = .ok (.iload_n 1, 1) := by decide +kernel
theorem dX9_finds_34 : decode cX9_finds 34 = .ok (.imul, 1) := by decide +kernel
theorem dX9_finds_35 : decode cX9_finds 35 = .ok (.iload_n 2, 1) := by decide +kernel
theorem dX9_finds_36 : decode cX9_finds 36 = .ok (.iadd, 1) := by decide +kernel
theorem dX9_finds_37 : decode cX9_finds 37 = .ok (.aload_n 0, 1) := by decide +kernel
theorem dX9_finds_38 : decode cX9_finds 38 = .ok (.iload_n 1, 1) := by decide +kernel
theorem dX9_finds_39 : decode cX9_finds 39 = .ok (.iload_n 2, 1) := by decide +kernel
theorem dX9_finds_40 : decode cX9_finds 40 = .ok (.invokevirtual 230, 3) := by decide +kernel
theorem dX9_finds_43 : decode cX9_finds 43 = .ok (.bastore, 1) := by decide +kernel
theorem dX9_finds_44 : decode cX9_finds 44 = .ok (.iinc 2 1, 3) := by decide +kernel
theorem dX9_finds_47 : decode cX9_finds 47 = .ok (.goto (-31), 3) := by decide +kernel
theorem dX9_finds_50 : decode cX9_finds 50 = .ok (.iinc 1 1, 3) := by decide +kernel
theorem dX9_finds_53 : decode cX9_finds 53 = .ok (.goto (-51), 3) := by decide +kernel
theorem dX9_finds_56 : decode cX9_finds 56 = .ok (.aload_n 0, 1) := by decide +kernel
theorem dX9_finds_57 : decode cX9_finds 57 = .ok (.iconst (-1), 1) := by decide +kernel
theorem dX9_finds_58 : decode cX9_finds 58 = .ok (.putfield 217, 3) := by decide +kernel
theorem dX9_finds_61 : decode cX9_finds 61 = .ok (.aload_n 0, 1) := by decide +kernel
theorem dX9_finds_62 : decode cX9_finds 62 = .ok (.iconst 0, 1) := by decide +kernel
theorem dX9_finds_63 : decode cX9_finds 63 = .ok (.iconst 0, 1) := by decide +kernel
theorem dX9_finds_64 : decode cX9_finds 64 = .ok (.iconst 0, 1) := by decide +kernel
theorem dX9_finds_65 : decode cX9_finds 65 = .ok (.invokevirtual 226, 3) := by decide +kernel
theorem dX9_finds_68 : decode cX9_finds 68 = .ok (.return_, 1) := by decide +kernel
theorem dX9_look_0 : decode cX9_look 0 = .ok (.iconst 0, 1) := by decide +kernel
theorem dX9_look_1 : decode cX9_look 1 = .ok (.istore_n 2, 1) := by decide +kernel
theorem dX9_look_2 : decode cX9_look 2 = .ok (.iload_n 1, 1) := by decide +kernel
theorem dX9_look_3 : decode cX9_look 3 = .ok (.tableswitch 106 0 5 #[37, 42, 47, 47, 47, 101], 37) := by decide +kernel
theorem dX9_look_40 : decode cX9_look 40 = .ok (.aload_n 0, 1) := by decide +kernel
theorem dX9_look_41 : decode cX9_look 41 = .ok (.getfield 104, 3) := by decide +kernel
theorem dX9_look_44 : decode cX9_look 44 = .ok (.ireturn, 1) := by decide +kernel
theorem dX9_look_45 : decode cX9_look 45 = .ok (.aload_n 0, 1) := by decide +kernel
theorem dX9_look_46 : decode cX9_look 46 = .ok (.getfield 111, 3) := by decide +kernel
theorem dX9_look_49 : decode cX9_look 49 = .ok (.ireturn, 1) := by decide +kernel
theorem dX9_look_50 : decode cX9_look 50 = .ok (.iconst 0, 1) := by decide +kernel
theorem dX9_look_51 : decode cX9_look 51 = .ok (.istore_n 3, 1) := by decide +kernel
theorem dX9_look_52 : decode cX9_look 52 = .ok (.iload_n 3, 1) := by decide +kernel
theorem dX9_look_53 : decode cX9_look 53 = .ok (.aload_n 0, 1) := by decide +kernel
theorem dX9_look_54 : decode cX9_look 54 = .ok (.getfield 111, 3) := by decide +kernel
theorem dX9_look_57 : decode cX9_look 57 = .ok (.if_icmp .ge 45, 3) := by decide +kernel
theorem dX9_look_60 : decode cX9_look 60 = .ok (.iload_n 2, 1) := by decide +kernel
theorem dX9_look_61 : decode cX9_look 61 = .ok (.aload_n 0, 1) := by decide +kernel
theorem dX9_look_62 : decode cX9_look 62 = .ok (.getfield 49, 3) := by decide +kernel
theorem dX9_look_65 : decode cX9_look 65 = .ok (.iload_n 3, 1) := by decide +kernel
theorem dX9_look_66 : decode cX9_look 66 = .ok (.iaload, 1) := by decide +kernel
theorem dX9_look_67 : decode cX9_look 67 = .ok (.iload_n 1, 1) := by decide +kernel
theorem dX9_look_68 : decode cX9_look 68 = .ok (.iconst 2, 1) := by decide +kernel
theorem dX9_look_69 : decode cX9_look 69 = .ok (.if_icmp .ne 7, 3) := by decide +kernel
theorem dX9_look_72 : decode cX9_look 72 = .ok (.iconst 0, 1) := by decide +kernel
theorem dX9_look_73 : decode cX9_look 73 = .ok (.goto 13, 3) := by decide +kernel
theorem dX9_look_76 : decode cX9_look 76 = .ok (.iload_n 1, 1) := by decide +kernel
theorem dX9_look_77 : decode cX9_look 77 = .ok (.iconst 3, 1) := by decide +kernel
theorem dX9_look_78 : decode cX9_look 78 = .ok (.if_icmp .ne 7, 3) := by decide +kernel
theorem dX9_look_81 : decode cX9_look 81 = .ok (.iconst 1, 1) := by decide +kernel
theorem dX9_look_82 : decode cX9_look 82 = .ok (.goto 4, 3) := by decide +kernel
theorem dX9_look_85 : decode cX9_look 85 = .ok (.iconst 3, 1) := by decide +kernel
theorem dX9_look_86 : decode cX9_look 86 = .ok (.if_icmp .ne 7, 3) := by decide +kernel
theorem dX9_look_89 : decode cX9_look 89 = .ok (.iconst 1, 1) := by decide +kernel
theorem dX9_look_90 : decode cX9_look 90 = .ok (.goto 4, 3) := by decide +kernel
theorem dX9_look_93 : decode cX9_look 93 = .ok (.iconst 0, 1) := by decide +kernel
theorem dX9_look_94 : decode cX9_look 94 = .ok (.iadd, 1) := by decide +kernel
theorem dX9_look_95 : decode cX9_look 95 = .ok (.istore_n 2, 1) := by decide +kernel
theorem dX9_look_96 : decode cX9_look 96 = .ok (.iinc 3 1, 3) := by decide +kernel
theorem dX9_look_99 : decode cX9_look 99 = .ok (.goto (-47), 3) := by decide +kernel
theorem dX9_look_102 : decode cX9_look 102 = .ok (.iload_n 2, 1) := by decide +kernel
theorem dX9_look_103 : decode cX9_look 103 = .ok (.ireturn, 1) := by decide +kernel
theorem dX9_look_104 : decode cX9_look 104 = .ok (.aload_n 0, 1) := by decide +kernel
theorem dX9_look_105 : decode cX9_look 105 = .ok (.getfield 233, 3) := by decide +kernel
theorem dX9_look_108 : decode cX9_look 108 = .ok (.ireturn, 1) := by decide +kernel
theorem dX9_look_109 : decode cX9_look 109 = .ok (.iload_n 1, 1) := by decide +kernel
theorem dX9_look_110 : decode cX9_look 110 = .ok (.bipush 10, 2) := by decide +kernel
theorem dX9_look_112 : decode cX9_look 112 = .ok (.bipush 13, 2) := by decide +kernel
theorem dX9_look_114 : decode cX9_look 114 = .ok (.invokestatic 96, 3) := by decide +kernel
theorem dX9_look_117 : decode cX9_look 117 = .ok (.ifCond .eq 15, 3) := by decide +kernel
theorem dX9_look_120 : decode cX9_look 120 = .ok (.aload_n 0, 1) := by decide +kernel
theorem dX9_look_121 : decode cX9_look 121 = .ok (.getfield 13, 3) := by decide +kernel
theorem dX9_look_124 : decode cX9_look 124 = .ok (.iload_n 1, 1) := by decide +kernel
theorem dX9_look_125 : decode cX9_look 125 = .ok (.bipush 10, 2) := by decide +kernel
theorem dX9_look_127 : decode cX9_look 127 = .ok (.isub, 1) := by decide +kernel
theorem dX9_look_128 : decode cX9_look 128 = .ok (.iaload, 1) := by decide +kernel
theorem dX9_look_129 : decode cX9_look 129 = .ok (.goto 27, 3) := by decide +kernel
theorem dX9_look_132 : decode cX9_look 132 = .ok (.iload_n 1, 1) := by decide +kernel
theorem dX9_look_133 : decode cX9_look 133 = .ok (.bipush 20, 2) := by decide +kernel
theorem dX9_look_135 : decode cX9_look 135 = .ok (.bipush 23, 2) := by decide +kernel
theorem dX9_look_137 : decode cX9_look 137 = .ok (.invokestatic 96, 3) := by decide +kernel
theorem dX9_look_140 : decode cX9_look 140 = .ok (.ifCond .eq 15, 3) := by decide +kernel
theorem dX9_look_143 : decode cX9_look 143 = .ok (.aload_n 0, 1) := by decide +kernel
theorem dX9_look_144 : decode cX9_look 144 = .ok (.getfield 16, 3) := by decide +kernel
theorem dX9_look_147 : decode cX9_look 147 = .ok (.iload_n 1, 1) := by decide +kernel
theorem dX9_look_148 : decode cX9_look 148 = .ok (.bipush 20, 2) := by decide +kernel
theorem dX9_look_150 : decode cX9_look 150 = .ok (.isub, 1) := by decide +kernel
theorem dX9_look_151 : decode cX9_look 151 = .ok (.iaload, 1) := by decide +kernel
theorem dX9_look_152 : decode cX9_look 152 = .ok (.goto 4, 3) := by decide +kernel
theorem dX9_look_155 : decode cX9_look 155 = .ok (.iconst (-1), 1) := by decide +kernel
theorem dX9_look_156 : decode cX9_look 156 = .ok (.ireturn, 1) := by decide +kernel
theorem dX9_of_0 : decode cX9_of 0 = .ok (.iload_n 1, 1) := by decide +kernel
theorem dX9_of_1 : decode cX9_of 1 = .ok (.iconst 0, 1) := by decide +kernel
theorem dX9_of_2 : decode cX9_of 2 = .ok (.aload_n 0, 1) := by decide +kernel
theorem dX9_of_3 : decode cX9_of 3 = .ok (.getfield 111, 3) := by decide +kernel
theorem dX9_of_6 : decode cX9_of 6 = .ok (.iconst 1, 1) := by decide +kernel
theorem dX9_of_7 : decode cX9_of 7 = .ok (.isub, 1) := by decide +kernel
theorem dX9_of_8 : decode cX9_of 8 = .ok (.invokestatic 96, 3) := by decide +kernel
theorem dX9_of_11 : decode cX9_of 11 = .ok (.ifCond .ne 5, 3) := by decide +kernel
theorem dX9_of_14 : decode cX9_of 14 = .ok (.iconst (-1), 1) := by decide +kernel
theorem dX9_of_15 : decode cX9_of 15 = .ok (.ireturn, 1) := by decide +kernel
theorem dX9_of_16 : decode cX9_of 16 = .ok (.iload_n 2, 1) := by decide +kernel
theorem dX9_of_17 : decode cX9_of 17 = .ok (.tableswitch 125 0 9 #[55, 62, 69, 76, 83, 90, 97, 104, 111, 118], 55) := by decide +kernel
theorem dX9_of_72 : decode cX9_of 72 = .ok (.aload_n 0, 1) := by decide +kernel
theorem dX9_of_73 : decode cX9_of 73 = .ok (.getfield 28, 3) := by decide +kernel
theorem dX9_of_76 : decode cX9_of 76 = .ok (.iload_n 1, 1) := by decide +kernel
theorem dX9_of_77 : decode cX9_of 77 = .ok (.iaload, 1) := by decide +kernel
theorem dX9_of_78 : decode cX9_of 78 = .ok (.ireturn, 1) := by decide +kernel
theorem dX9_of_79 : decode cX9_of 79 = .ok (.aload_n 0, 1) := by decide +kernel
theorem dX9_of_80 : decode cX9_of 80 = .ok (.getfield 31, 3) := by decide +kernel
theorem dX9_of_83 : decode cX9_of 83 = .ok (.iload_n 1, 1) := by decide +kernel
theorem dX9_of_84 : decode cX9_of 84 = .ok (.iaload, 1) := by decide +kernel
theorem dX9_of_85 : decode cX9_of 85 = .ok (.ireturn, 1) := by decide +kernel
theorem dX9_of_86 : decode cX9_of 86 = .ok (.aload_n 0, 1) := by decide +kernel
theorem dX9_of_87 : decode cX9_of 87 = .ok (.getfield 34, 3) := by decide +kernel
theorem dX9_of_90 : decode cX9_of 90 = .ok (.iload_n 1, 1) := by decide +kernel
theorem dX9_of_91 : decode cX9_of 91 = .ok (.iaload, 1) := by decide +kernel
theorem dX9_of_92 : decode cX9_of 92 = .ok (.ireturn, 1) := by decide +kernel
theorem dX9_of_93 : decode cX9_of 93 = .ok (.aload_n 0, 1) := by decide +kernel
theorem dX9_of_94 : decode cX9_of 94 = .ok (.getfield 37, 3) := by decide +kernel
theorem dX9_of_97 : decode cX9_of 97 = .ok (.iload_n 1, 1) := by decide +kernel
theorem dX9_of_98 : decode cX9_of 98 = .ok (.iaload, 1) := by decide +kernel
theorem dX9_of_99 : decode cX9_of 99 = .ok (.ireturn, 1) := by decide +kernel
theorem dX9_of_100 : decode cX9_of 100 = .ok (.aload_n 0, 1) := by decide +kernel
theorem dX9_of_101 : decode cX9_of 101 = .ok (.getfield 40, 3) := by decide +kernel
theorem dX9_of_104 : decode cX9_of 104 = .ok (.iload_n 1, 1) := by decide +kernel
theorem dX9_of_105 : decode cX9_of 105 = .ok (.iaload, 1) := by decide +kernel
theorem dX9_of_106 : decode cX9_of 106 = .ok (.ireturn, 1) := by decide +kernel
theorem dX9_of_107 : decode cX9_of 107 = .ok (.aload_n 0, 1) := by decide +kernel
theorem dX9_of_108 : decode cX9_of 108 = .ok (.getfield 43, 3) := by decide +kernel
theorem dX9_of_111 : decode cX9_of 111 = .ok (.iload_n 1, 1) := by decide +kernel
theorem dX9_of_112 : decode cX9_of 112 = .ok (.iaload, 1) := by decide +kernel
theorem dX9_of_113 : decode cX9_of 113 = .ok (.ireturn, 1) := by decide +kernel
theorem dX9_of_114 : decode cX9_of 114 = .ok (.aload_n 0, 1) := by decide +kernel
theorem dX9_of_115 : decode cX9_of 115 = .ok (.getfield 46, 3) := by decide +kernel
theorem dX9_of_118 : decode cX9_of 118 = .ok (.iload_n 1, 1) := by decide +kernel
theorem dX9_of_119 : decode cX9_of 119 = .ok (.iaload, 1) := by decide +kernel
theorem dX9_of_120 : decode cX9_of 120 = .ok (.ireturn, 1) := by decide +kernel
theorem dX9_of_121 : decode cX9_of 121 = .ok (.aload_n 0, 1) := by decide +kernel
theorem dX9_of_122 : decode cX9_of 122 = .ok (.getfield 49, 3) := by decide +kernel
theorem dX9_of_125 : decode cX9_of 125 = .ok (.iload_n 1, 1) := by decide +kernel
theorem dX9_of_126 : decode cX9_of 126 = .ok (.iaload, 1) := by decide +kernel
theorem dX9_of_127 : decode cX9_of 127 = .ok (.ireturn, 1) := by decide +kernel
theorem dX9_of_128 : decode cX9_of 128 = .ok (.aload_n 0, 1) := by decide +kernel
theorem dX9_of_129 : decode cX9_of 129 = .ok (.getfield 52, 3) := by decide +kernel
theorem dX9_of_132 : decode cX9_of 132 = .ok (.iload_n 1, 1) := by decide +kernel
theorem dX9_of_133 : decode cX9_of 133 = .ok (.iaload, 1) := by decide +kernel
theorem dX9_of_134 : decode cX9_of 134 = .ok (.ireturn, 1) := by decide +kernel
theorem dX9_of_135 : decode cX9_of 135 = .ok (.aload_n 0, 1) := by decide +kernel
theorem dX9_of_136 : decode cX9_of 136 = .ok (.getfield 55, 3) := by decide +kernel
theorem dX9_of_139 : decode cX9_of 139 = .ok (.iload_n 1, 1) := by decide +kernel
theorem dX9_of_140 : decode cX9_of 140 = .ok (.iaload, 1) := by decide +kernel
theorem dX9_of_141 : decode cX9_of 141 = .ok (.ireturn, 1) := by decide +kernel
theorem dX9_of_142 : decode cX9_of 142 = .ok (.iconst (-1), 1) := by decide +kernel
theorem dX9_of_143 : decode cX9_of 143 = .ok (.ireturn, 1) := by decide +kernel
theorem dX9_setOf_0 : decode cX9_setOf 0 = .ok (.iconst 0, 1) := by decide +kernel
theorem dX9_setOf_1 : decode cX9_setOf 1 = .ok (.istore_n 2, 1) := by decide +kernel
theorem dX9_setOf_2 : decode cX9_setOf 2 = .ok (.iconst 0, 1) := by decide +kernel
theorem dX9_setOf_3 : decode cX9_setOf 3 = .ok (.istore_n 3, 1) := by decide +kernel
theorem dX9_setOf_4 : decode cX9_setOf 4 = .ok (.iload_n 3, 1) := by decide +kernel
theorem dX9_setOf_5 : decode cX9_setOf 5 = .ok (.aload_n 0, 1) := by decide +kernel
theorem dX9_setOf_6 : decode cX9_setOf 6 = .ok (.getfield 111, 3) := by decide +kernel
theorem dX9_setOf_9 : decode cX9_setOf 9 = .ok (.if_icmp .ge 29, 3) := by decide +kernel
theorem dX9_setOf_12 : decode cX9_setOf 12 = .ok (.iload_n 2, 1) := by decide +kernel
theorem dX9_setOf_13 : decode cX9_setOf 13 = .ok (.aload_n 0, 1) := by decide +kernel
theorem dX9_setOf_14 : decode cX9_setOf 14 = .ok (.getfield 90, 3) := by decide +kernel
theorem dX9_setOf_17 : decode cX9_setOf 17 = .ok (.iload_n 3, 1) := by decide +kernel
theorem dX9_setOf_18 : decode cX9_setOf 18 = .ok (.iaload, 1) := by decide +kernel
theorem dX9_setOf_19 : decode cX9_setOf 19 = .ok (.iload_n 1, 1) := by decide +kernel
theorem dX9_setOf_20 : decode cX9_setOf 20 = .ok (.if_icmp .ne 9, 3) := by decide +kernel
theorem dX9_setOf_23 : decode cX9_setOf 23 = .ok (.iconst 1, 1) := by decide +kernel
theorem dX9_setOf_24 : decode cX9_setOf 24 = .ok (.iload_n 3, 1) := by decide +kernel
theorem dX9_setOf_25 : decode cX9_setOf 25 = .ok (.ishl, 1) := by decide +kernel
theorem dX9_setOf_26 : decode cX9_setOf 26 = .ok (.goto 4, 3) := by decide +kernel
theorem dX9_setOf_29 : decode cX9_setOf 29 = .ok (.iconst 0, 1) := by decide +kernel
theorem dX9_setOf_30 : decode cX9_setOf 30 = .ok (.ior, 1) := by decide +kernel
theorem dX9_setOf_31 : decode cX9_setOf 31 = .ok (.istore_n 2, 1) := by decide +kernel
theorem dX9_setOf_32 : decode cX9_setOf 32 = .ok (.iinc 3 1, 3) := by decide +kernel
theorem dX9_setOf_35 : decode cX9_setOf 35 = .ok (.goto (-31), 3) := by decide +kernel
theorem dX9_setOf_38 : decode cX9_setOf 38 = .ok (.iload_n 2, 1) := by decide +kernel
theorem dX9_setOf_39 : decode cX9_setOf 39 = .ok (.ireturn, 1) := by decide +kernel
theorem dX9_best_0 : decode cX9_best 0 = .ok (.aload_n 0, 1) := by decide +kernel
theorem dX9_best_1 : decode cX9_best 1 = .ok (.invokevirtual 236, 3) := by decide +kernel
theorem dX9_best_4 : decode cX9_best 4 = .ok (.iload_n 1, 1) := by decide +kernel
theorem dX9_best_5 : decode cX9_best 5 = .ok (.ifCond .ne 8, 3) := by decide +kernel
theorem dX9_best_8 : decode cX9_best 8 = .ok (.aload_n 0, 1) := by decide +kernel
theorem dX9_best_9 : decode cX9_best 9 = .ok (.getfield 217, 3) := by decide +kernel
theorem dX9_best_12 : decode cX9_best 12 = .ok (.ireturn, 1) := by decide +kernel
theorem dX9_best_13 : decode cX9_best 13 = .ok (.iload_n 1, 1) := by decide +kernel
theorem dX9_best_14 : decode cX9_best 14 = .ok (.iconst 1, 1) := by decide +kernel
theorem dX9_best_15 : decode cX9_best 15 = .ok (.if_icmp .ne 8, 3) := by decide +kernel
theorem dX9_best_18 : decode cX9_best 18 = .ok (.aload_n 0, 1) := by decide +kernel
theorem dX9_best_19 : decode cX9_best 19 = .ok (.getfield 220, 3) := by decide +kernel
theorem dX9_best_22 : decode cX9_best 22 = .ok (.ireturn, 1) := by decide +kernel
theorem dX9_best_23 : decode cX9_best 23 = .ok (.iload_n 1, 1) := by decide +kernel
theorem dX9_best_24 : decode cX9_best 24 = .ok (.bipush 10, 2) := by decide +kernel
theorem dX9_best_26 : decode cX9_best 26 = .ok (.bipush 9, 2) := by decide +kernel
theorem dX9_best_28 : decode cX9_best 28 = .ok (.aload_n 0, 1) := by decide +kernel
theorem dX9_best_29 : decode cX9_best 29 = .ok (.getfield 111, 3) := by decide +kernel
theorem dX9_best_32 : decode cX9_best 32 = .ok (.iadd, 1) := by decide +kernel
theorem dX9_best_33 : decode cX9_best 33 = .ok (.invokestatic 96, 3) := by decide +kernel
theorem dX9_best_36 : decode cX9_best 36 = .ok (.ifCond .eq 13, 3) := by decide +kernel
theorem dX9_best_39 : decode cX9_best 39 = .ok (.aload_n 0, 1) := by decide +kernel
theorem dX9_best_40 : decode cX9_best 40 = .ok (.getfield 90, 3) := by decide +kernel
theorem dX9_best_43 : decode cX9_best 43 = .ok (.iload_n 1, 1) := by decide +kernel
theorem dX9_best_44 : decode cX9_best 44 = .ok (.bipush 10, 2) := by decide +kernel
theorem dX9_best_46 : decode cX9_best 46 = .ok (.isub, 1) := by decide +kernel
theorem dX9_best_47 : decode cX9_best 47 = .ok (.iaload, 1) := by decide +kernel
theorem dX9_best_48 : decode cX9_best 48 = .ok (.ireturn, 1) := by decide +kernel
theorem dX9_best_49 : decode cX9_best 49 = .ok (.iload_n 1, 1) := by decide +kernel
theorem dX9_best_50 : decode cX9_best 50 = .ok (.bipush 20, 2) := by decide +kernel
theorem dX9_best_52 : decode cX9_best 52 = .ok (.bipush 19, 2) := by decide +kernel
theorem dX9_best_54 : decode cX9_best 54 = .ok (.aload_n 0, 1) := by decide +kernel
theorem dX9_best_55 : decode cX9_best 55 = .ok (.getfield 111, 3) := by decide +kernel
theorem dX9_best_58 : decode cX9_best 58 = .ok (.iadd, 1) := by decide +kernel
theorem dX9_best_59 : decode cX9_best 59 = .ok (.invokestatic 96, 3) := by decide +kernel
theorem dX9_best_62 : decode cX9_best 62 = .ok (.ifCond .eq 16, 3) := by decide +kernel
theorem dX9_best_65 : decode cX9_best 65 = .ok (.aload_n 0, 1) := by decide +kernel
theorem dX9_best_66 : decode cX9_best 66 = .ok (.getfield 90, 3) := by decide +kernel
theorem dX9_best_69 : decode cX9_best 69 = .ok (.iload_n 1, 1) := by decide +kernel
theorem dX9_best_70 : decode cX9_best 70 = .ok (.bipush 20, 2) := by decide +kernel
theorem dX9_best_72 : decode cX9_best 72 = .ok (.isub, 1) := by decide +kernel
theorem dX9_best_73 : decode cX9_best 73 = .ok (.iaload, 1) := by decide +kernel
theorem dX9_best_74 : decode cX9_best 74 = .ok (.iconst (-1), 1) := by decide +kernel
theorem dX9_best_75 : decode cX9_best 75 = .ok (.if_icmp .ne 5, 3) := by decide +kernel
theorem dX9_best_78 : decode cX9_best 78 = .ok (.iconst (-1), 1) := by decide +kernel
theorem dX9_best_79 : decode cX9_best 79 = .ok (.ireturn, 1) := by decide +kernel
theorem dX9_best_80 : decode cX9_best 80 = .ok (.aload_n 0, 1) := by decide +kernel
theorem dX9_best_81 : decode cX9_best 81 = .ok (.aload_n 0, 1) := by decide +kernel
theorem dX9_best_82 : decode cX9_best 82 = .ok (.getfield 90, 3) := by decide +kernel
theorem dX9_best_85 : decode cX9_best 85 = .ok (.iload_n 1, 1) := by decide +kernel
theorem dX9_best_86 : decode cX9_best 86 = .ok (.bipush 20, 2) := by decide +kernel
theorem dX9_best_88 : decode cX9_best 88 = .ok (.isub, 1) := by decide +kernel
theorem dX9_best_89 : decode cX9_best 89 = .ok (.iaload, 1) := by decide +kernel
theorem dX9_best_90 : decode cX9_best 90 = .ok (.aload_n 0, 1) := by decide +kernel
theorem dX9_best_91 : decode cX9_best 91 = .ok (.aload_n 0, 1) := by decide +kernel
theorem dX9_best_92 : decode cX9_best 92 = .ok (.getfield 90, 3) := by decide +kernel
theorem dX9_best_95 : decode cX9_best 95 = .ok (.iload_n 1, 1) := by decide +kernel
theorem dX9_best_96 : decode cX9_best 96 = .ok (.bipush 20, 2) := by decide +kernel
theorem dX9_best_98 : decode cX9_best 98 = .ok (.isub, 1) := by decide +kernel
theorem dX9_best_99 : decode cX9_best 99 = .ok (.iaload, 1) := by decide +kernel
theorem dX9_best_100 : decode cX9_best 100 = .ok (.invokevirtual 239, 3) := by decide +kernel
theorem dX9_best_103 : decode cX9_best 103 = .ok (.invokevirtual 230, 3) := by decide +kernel
theorem dX9_best_106 : decode cX9_best 106 = .ok (.istore_n 2, 1) := by decide +kernel
theorem dX9_best_107 : decode cX9_best 107 = .ok (.iload_n 2, 1) := by decide +kernel
theorem dX9_best_108 : decode cX9_best 108 = .ok (.ifCond .eq 15, 3) := by decide +kernel
theorem dX9_best_111 : decode cX9_best 111 = .ok (.aload_n 0, 1) := by decide +kernel
theorem dX9_best_112 : decode cX9_best 112 = .ok (.getfield 81, 3) := by decide +kernel
theorem dX9_best_115 : decode cX9_best 115 = .ok (.iload_n 1, 1) := by decide +kernel
theorem dX9_best_116 : decode cX9_best 116 = .ok (.bipush 20, 2) := by decide +kernel
theorem dX9_best_118 : decode cX9_best 118 = .ok (.isub, 1) := by decide +kernel
theorem dX9_best_119 : decode cX9_best 119 = .ok (.iaload, 1) := by decide +kernel
theorem dX9_best_120 : decode cX9_best 120 = .ok (.goto 4, 3) := by decide +kernel
theorem dX9_best_123 : decode cX9_best 123 = .ok (.iconst (-1), 1) := by decide +kernel
theorem dX9_best_124 : decode cX9_best 124 = .ok (.ireturn, 1) := by decide +kernel
theorem dX9_works_0 : decode cX9_works 0 = .ok (.aload_n 0, 1) := by decide +kernel
theorem dX9_works_1 : decode cX9_works 1 = .ok (.aload_n 0, 1) := by decide +kernel
theorem dX9_works_2 : decode cX9_works 2 = .ok (.iload_n 1, 1) := by decide +kernel
theorem dX9_works_3 : decode cX9_works 3 = .ok (.invokevirtual 239, 3) := by decide +kernel
theorem dX9_works_6 : decode cX9_works 6 = .ok (.invokevirtual 210, 3) := by decide +kernel
theorem dX9_works_9 : decode cX9_works 9 = .ok (.aload_n 0, 1) := by decide +kernel
theorem dX9_works_10 : decode cX9_works 10 = .ok (.getfield 7, 3) := by decide +kernel
theorem dX9_works_13 : decode cX9_works 13 = .ok (.bipush 52, 2) := by decide +kernel
theorem dX9_works_15 : decode cX9_works 15 = .ok (.iload_n 1, 1) := by decide +kernel
theorem dX9_works_16 : decode cX9_works 16 = .ok (.imul, 1) := by decide +kernel
theorem dX9_works_17 : decode cX9_works 17 = .ok (.aload_n 0, 1) := by decide +kernel
theorem dX9_works_18 : decode cX9_works 18 = .ok (.getfield 104, 3) := by decide +kernel
theorem dX9_works_21 : decode cX9_works 21 = .ok (.iadd, 1) := by decide +kernel
theorem dX9_works_22 : decode cX9_works 22 = .ok (.iaload, 1) := by decide +kernel
theorem dX9_works_23 : decode cX9_works 23 = .ok (.istore_n 2, 1) := by decide +kernel
theorem dX9_works_24 : decode cX9_works 24 = .ok (.iconst 0, 1) := by decide +kernel
theorem dX9_works_25 : decode cX9_works 25 = .ok (.istore_n 3, 1) := by decide +kernel
theorem dX9_works_26 : decode cX9_works 26 = .ok (.iload_n 3, 1) := by decide +kernel
theorem dX9_works_27 : decode cX9_works 27 = .ok (.aload_n 0, 1) := by decide +kernel
theorem dX9_works_28 : decode cX9_works 28 = .ok (.getfield 207, 3) := by decide +kernel
theorem dX9_works_31 : decode cX9_works 31 = .ok (.if_icmp .ge 143, 3) := by decide +kernel
theorem dX9_works_34 : decode cX9_works 34 = .ok (.iload_n 2, 1) := by decide +kernel
theorem dX9_works_35 : decode cX9_works 35 = .ok (.ifCond .le 139, 3) := by decide +kernel
theorem dX9_works_38 : decode cX9_works 38 = .ok (.aload_n 0, 1) := by decide +kernel
theorem dX9_works_39 : decode cX9_works 39 = .ok (.getfield 78, 3) := by decide +kernel
theorem dX9_works_42 : decode cX9_works 42 = .ok (.iload_n 3, 1) := by decide +kernel
theorem dX9_works_43 : decode cX9_works 43 = .ok (.iaload, 1) := by decide +kernel
theorem dX9_works_44 : decode cX9_works 44 = .ok (.istore 4, 2) := by decide +kernel
theorem dX9_works_46 : decode cX9_works 46 = .ok (.aload_n 0, 1) := by decide +kernel
theorem dX9_works_47 : decode cX9_works 47 = .ok (.iload_n 1, 1) := by decide +kernel
theorem dX9_works_48 : decode cX9_works 48 = .ok (.iload 4, 2) := by decide +kernel
theorem dX9_works_50 : decode cX9_works 50 = .ok (.invokevirtual 213, 3) := by decide +kernel
theorem dX9_works_53 : decode cX9_works 53 = .ok (.istore 5, 2) := by decide +kernel
theorem dX9_works_55 : decode cX9_works 55 = .ok (.iload 5, 2) := by decide +kernel
theorem dX9_works_57 : decode cX9_works 57 = .ok (.iload_n 2, 1) := by decide +kernel
theorem dX9_works_58 : decode cX9_works 58 = .ok (.if_icmp .ge 8, 3) := by decide +kernel
theorem dX9_works_61 : decode cX9_works 61 = .ok (.iload 5, 2) := by decide +kernel
theorem dX9_works_63 : decode cX9_works 63 = .ok (.goto 4, 3) := by decide +kernel
theorem dX9_works_66 : decode cX9_works 66 = .ok (.iload_n 2, 1) := by decide +kernel
theorem dX9_works_67 : decode cX9_works 67 = .ok (.istore 6, 2) := by decide +kernel
theorem dX9_works_69 : decode cX9_works 69 = .ok (.aload_n 0, 1) := by decide +kernel
theorem dX9_works_70 : decode cX9_works 70 = .ok (.getfield 52, 3) := by decide +kernel
theorem dX9_works_73 : decode cX9_works 73 = .ok (.iload 4, 2) := by decide +kernel
theorem dX9_works_75 : decode cX9_works 75 = .ok (.aload_n 0, 1) := by decide +kernel
theorem dX9_works_76 : decode cX9_works 76 = .ok (.getfield 43, 3) := by decide +kernel
theorem dX9_works_79 : decode cX9_works 79 = .ok (.iload 4, 2) := by decide +kernel
theorem dX9_works_81 : decode cX9_works 81 = .ok (.iaload, 1) := by decide +kernel
theorem dX9_works_82 : decode cX9_works 82 = .ok (.iload 5, 2) := by decide +kernel
theorem dX9_works_84 : decode cX9_works 84 = .ok (.isub, 1) := by decide +kernel
theorem dX9_works_85 : decode cX9_works 85 = .ok (.iload 6, 2) := by decide +kernel
theorem dX9_works_87 : decode cX9_works 87 = .ok (.iadd, 1) := by decide +kernel
theorem dX9_works_88 : decode cX9_works 88 = .ok (.iastore, 1) := by decide +kernel
theorem dX9_works_89 : decode cX9_works 89 = .ok (.aload_n 0, 1) := by decide +kernel
theorem dX9_works_90 : decode cX9_works 90 = .ok (.getfield 55, 3) := by decide +kernel
theorem dX9_works_93 : decode cX9_works 93 = .ok (.iload 4, 2) := by decide +kernel
theorem dX9_works_95 : decode cX9_works 95 = .ok (.iload_n 1, 1) := by decide +kernel
theorem dX9_works_96 : decode cX9_works 96 = .ok (.iastore, 1) := by decide +kernel
theorem dX9_works_97 : decode cX9_works 97 = .ok (.iload_n 2, 1) := by decide +kernel
theorem dX9_works_98 : decode cX9_works 98 = .ok (.iload 6, 2) := by decide +kernel
theorem dX9_works_100 : decode cX9_works 100 = .ok (.isub, 1) := by decide +kernel
theorem dX9_works_101 : decode cX9_works 101 = .ok (.istore_n 2, 1) := by decide +kernel
theorem dX9_works_102 : decode cX9_works 102 = .ok (.iload 6, 2) := by decide +kernel
theorem dX9_works_104 : decode cX9_works 104 = .ok (.iload 5, 2) := by decide +kernel
theorem dX9_works_106 : decode cX9_works 106 = .ok (.if_icmp .ge 6, 3) := by decide +kernel
theorem dX9_works_109 : decode cX9_works 109 = .ok (.goto 59, 3) := by decide +kernel
theorem dX9_works_112 : decode cX9_works 112 = .ok (.aload_n 0, 1) := by decide +kernel
theorem dX9_works_113 : decode cX9_works 113 = .ok (.getfield 49, 3) := by decide +kernel
theorem dX9_works_116 : decode cX9_works 116 = .ok (.iload 4, 2) := by decide +kernel
theorem dX9_works_118 : decode cX9_works 118 = .ok (.iconst 1, 1) := by decide +kernel
theorem dX9_works_119 : decode cX9_works 119 = .ok (.iastore, 1) := by decide +kernel
theorem dX9_works_120 : decode cX9_works 120 = .ok (.aload_n 0, 1) := by decide +kernel
theorem dX9_works_121 : decode cX9_works 121 = .ok (.getfield 13, 3) := by decide +kernel
theorem dX9_works_124 : decode cX9_works 124 = .ok (.iload_n 1, 1) := by decide +kernel
theorem dX9_works_125 : decode cX9_works 125 = .ok (.dup2, 1) := by decide +kernel
theorem dX9_works_126 : decode cX9_works 126 = .ok (.iaload, 1) := by decide +kernel
theorem dX9_works_127 : decode cX9_works 127 = .ok (.aload_n 0, 1) := by decide +kernel
theorem dX9_works_128 : decode cX9_works 128 = .ok (.getfield 46, 3) := by decide +kernel
theorem dX9_works_131 : decode cX9_works 131 = .ok (.iload 4, 2) := by decide +kernel
theorem dX9_works_133 : decode cX9_works 133 = .ok (.iaload, 1) := by decide +kernel
theorem dX9_works_134 : decode cX9_works 134 = .ok (.isub, 1) := by decide +kernel
theorem dX9_works_135 : decode cX9_works 135 = .ok (.iastore, 1) := by decide +kernel
theorem dX9_works_136 : decode cX9_works 136 = .ok (.aload_n 0, 1) := by decide +kernel
theorem dX9_works_137 : decode cX9_works 137 = .ok (.getfield 16, 3) := by decide +kernel
theorem dX9_works_140 : decode cX9_works 140 = .ok (.iload_n 1, 1) := by decide +kernel
theorem dX9_works_141 : decode cX9_works 141 = .ok (.dup2, 1) := by decide +kernel
theorem dX9_works_142 : decode cX9_works 142 = .ok (.iaload, 1) := by decide +kernel
theorem dX9_works_143 : decode cX9_works 143 = .ok (.aload_n 0, 1) := by decide +kernel
theorem dX9_works_144 : decode cX9_works 144 = .ok (.getfield 46, 3) := by decide +kernel
theorem dX9_works_147 : decode cX9_works 147 = .ok (.iload 4, 2) := by decide +kernel
theorem dX9_works_149 : decode cX9_works 149 = .ok (.iaload, 1) := by decide +kernel
theorem dX9_works_150 : decode cX9_works 150 = .ok (.iadd, 1) := by decide +kernel
theorem dX9_works_151 : decode cX9_works 151 = .ok (.iastore, 1) := by decide +kernel
theorem dX9_works_152 : decode cX9_works 152 = .ok (.aload_n 0, 1) := by decide +kernel
theorem dX9_works_153 : decode cX9_works 153 = .ok (.dup, 1) := by decide +kernel
theorem dX9_works_154 : decode cX9_works 154 = .ok (.getfield 233, 3) := by decide +kernel
theorem dX9_works_157 : decode cX9_works 157 = .ok (.aload_n 0, 1) := by decide +kernel
theorem dX9_works_158 : decode cX9_works 158 = .ok (.getfield 37, 3) := by decide +kernel
theorem dX9_works_161 : decode cX9_works 161 = .ok (.iload 4, 2) := by decide +kernel
theorem dX9_works_163 : decode cX9_works 163 = .ok (.iaload, 1) := by decide +kernel
theorem dX9_works_164 : decode cX9_works 164 = .ok (.iadd, 1) := by decide +kernel
theorem dX9_works_165 : decode cX9_works 165 = .ok (.putfield 233, 3) := by decide +kernel
theorem dX9_works_168 : decode cX9_works 168 = .ok (.iinc 3 1, 3) := by decide +kernel
theorem dX9_works_171 : decode cX9_works 171 = .ok (.goto (-145), 3) := by decide +kernel
theorem dX9_works_174 : decode cX9_works 174 = .ok (.return_, 1) := by decide +kernel
theorem dX9_work_0 : decode cX9_work 0 = .ok (.aload_n 0, 1) := by decide +kernel
theorem dX9_work_1 : decode cX9_work 1 = .ok (.getfield 104, 3) := by decide +kernel
theorem dX9_work_4 : decode cX9_work 4 = .ok (.bipush 51, 2) := by decide +kernel
theorem dX9_work_6 : decode cX9_work 6 = .ok (.if_icmp .ne 5, 3) := by decide +kernel
theorem dX9_work_9 : decode cX9_work 9 = .ok (.iconst (-1), 1) := by decide +kernel
theorem dX9_work_10 : decode cX9_work 10 = .ok (.ireturn, 1) := by decide +kernel
theorem dX9_work_11 : decode cX9_work 11 = .ok (.aload_n 0, 1) := by decide +kernel
theorem dX9_work_12 : decode cX9_work 12 = .ok (.invokevirtual 236, 3) := by decide +kernel
theorem dX9_work_15 : decode cX9_work 15 = .ok (.iconst 0, 1) := by decide +kernel
theorem dX9_work_16 : decode cX9_work 16 = .ok (.istore_n 1, 1) := by decide +kernel
theorem dX9_work_17 : decode cX9_work 17 = .ok (.iload_n 1, 1) := by decide +kernel
theorem dX9_work_18 : decode cX9_work 18 = .ok (.iconst 4, 1) := by decide +kernel
theorem dX9_work_19 : decode cX9_work 19 = .ok (.if_icmp .ge 14, 3) := by decide +kernel
theorem dX9_work_22 : decode cX9_work 22 = .ok (.aload_n 0, 1) := by decide +kernel
theorem dX9_work_23 : decode cX9_work 23 = .ok (.iload_n 1, 1) := by decide +kernel
theorem dX9_work_24 : decode cX9_work 24 = .ok (.invokevirtual 242, 3) := by decide +kernel
theorem dX9_work_27 : decode cX9_work 27 = .ok (.iinc 1 1, 3) := by decide +kernel
theorem dX9_work_30 : decode cX9_work 30 = .ok (.goto (-13), 3) := by decide +kernel
theorem dX9_work_33 : decode cX9_work 33 = .ok (.aload_n 0, 1) := by decide +kernel
theorem dX9_work_34 : decode cX9_work 34 = .ok (.dup, 1) := by decide +kernel
theorem dX9_work_35 : decode cX9_work 35 = .ok (.getfield 104, 3) := by decide +kernel
theorem dX9_work_38 : decode cX9_work 38 = .ok (.iconst 1, 1) := by decide +kernel
theorem dX9_work_39 : decode cX9_work 39 = .ok (.iadd, 1) := by decide +kernel
theorem dX9_work_40 : decode cX9_work 40 = .ok (.putfield 104, 3) := by decide +kernel
theorem dX9_work_43 : decode cX9_work 43 = .ok (.iconst 0, 1) := by decide +kernel
theorem dX9_work_44 : decode cX9_work 44 = .ok (.istore_n 1, 1) := by decide +kernel
theorem dX9_work_45 : decode cX9_work 45 = .ok (.iload_n 1, 1) := by decide +kernel
theorem dX9_work_46 : decode cX9_work 46 = .ok (.aload_n 0, 1) := by decide +kernel
theorem dX9_work_47 : decode cX9_work 47 = .ok (.getfield 111, 3) := by decide +kernel
theorem dX9_work_50 : decode cX9_work 50 = .ok (.if_icmp .ge 37, 3) := by decide +kernel
theorem dX9_work_53 : decode cX9_work 53 = .ok (.aload_n 0, 1) := by decide +kernel
theorem dX9_work_54 : decode cX9_work 54 = .ok (.iload_n 1, 1) := by decide +kernel
theorem dX9_work_55 : decode cX9_work 55 = .ok (.invokevirtual 117, 3) := by decide +kernel
theorem dX9_work_58 : decode cX9_work 58 = .ok (.ifCond .eq 23, 3) := by decide +kernel
theorem dX9_work_61 : decode cX9_work 61 = .ok (.aload_n 0, 1) := by decide +kernel
theorem dX9_work_62 : decode cX9_work 62 = .ok (.getfield 34, 3) := by decide +kernel
theorem dX9_work_65 : decode cX9_work 65 = .ok (.iload_n 1, 1) := by decide +kernel
theorem dX9_work_66 : decode cX9_work 66 = .ok (.iaload, 1) := by decide +kernel
theorem dX9_work_67 : decode cX9_work 67 = .ok (.aload_n 0, 1) := by decide +kernel
theorem dX9_work_68 : decode cX9_work 68 = .ok (.getfield 104, 3) := by decide +kernel
theorem dX9_work_71 : decode cX9_work 71 = .ok (.if_icmp .ge 10, 3) := by decide +kernel
theorem dX9_work_74 : decode cX9_work 74 = .ok (.aload_n 0, 1) := by decide +kernel
theorem dX9_work_75 : decode cX9_work 75 = .ok (.getfield 49, 3) := by decide +kernel
theorem dX9_work_78 : decode cX9_work 78 = .ok (.iload_n 1, 1) := by decide +kernel
theorem dX9_work_79 : decode cX9_work 79 = .ok (.iconst 3, 1) := by decide +kernel
theorem dX9_work_80 : decode cX9_work 80 = .ok (.iastore, 1) := by decide +kernel
theorem dX9_work_81 : decode cX9_work 81 = .ok (.iinc 1 1, 3) := by decide +kernel
theorem dX9_work_84 : decode cX9_work 84 = .ok (.goto (-39), 3) := by decide +kernel
theorem dX9_work_87 : decode cX9_work 87 = .ok (.aload_n 0, 1) := by decide +kernel
theorem dX9_work_88 : decode cX9_work 88 = .ok (.getfield 104, 3) := by decide +kernel
theorem dX9_work_91 : decode cX9_work 91 = .ok (.ireturn, 1) := by decide +kernel
end
section
/-! the words of the tables that hold in every state that the machine comes to -/
def gw : List Cond := lw_tbl.filter goodWord
theorem gw_mem {w : Cond} (i : Nat) (h : lw_tbl[i]? = some w) (hg : goodWord w = true) : w ∈ gw := List.mem_filter.mpr ⟨List.mem_of_getElem? h, hg⟩
theorem gw_good {big : List Cond} (h : ∀ w ∈ gw, w ∈ big) : GoodIn big gw := fun w hw => ⟨h w hw, good_of_word (List.mem_filter.mp hw).2⟩
theorem gw_one {w : Cond} (h : w ∈ gw) : w ∈ gw ∧ ((w.onTables && w.keeps) = true ∨ ∃ ty, w = .arrayClass ty) := ⟨h, good_of_word (List.mem_filter.mp h).2⟩
/-! the state of the two objects: ints by region, number, place; longs likewise -/
abbrev HS : Type := (Nat → Nat → Nat → Int32) × (Nat → Nat → Nat → Int64)
def gi (s : HS) (c k j : Nat) : Int32 := s.1 c k j
def gl (s : HS) (c k j : Nat) : Int64 := s.2 c k j
def ui (s : HS) (c k j : Nat) (v : Int32) : HS := (fun c' k' => if c' = c ∧ k' = k then upd (s.1 c k) j v else s.1 c' k', s.2)
def ul (s : HS) (c k j : Nat) (v : Int64) : HS := (s.1, fun c' k' => if c' = c ∧ k' = k then vp_updL (s.2 c k) j v else s.2 c' k')
theorem ui_at (s : HS) (c k j : Nat) (v : Int32) : (ui s c k j v).1 c k = upd (s.1 c k) j v := by simp [ui]
theorem ui_ne (s : HS) (c k j : Nat) (v : Int32) {c' k' : Nat} (h : ¬ (c' = c ∧ k' = k)) : (ui s c k j v).1 c' k' = s.1 c' k' := by simp only [ui]; rw [if_neg h]
theorem ul_at (s : HS) (c k j : Nat) (v : Int64) : (ul s c k j v).2 c k = vp_updL (s.2 c k) j v := by simp [ul]
theorem ul_ne (s : HS) (c k j : Nat) (v : Int64) {c' k' : Nat} (h : ¬ (c' = c ∧ k' = k)) : (ul s c k j v).2 c' k' = s.2 c' k' := by simp only [ul]; rw [if_neg h]
def mc (cs : List (Nat × Nat)) (c k : Nat) : Bool := cs.contains (c, k)
theorem mc_mem {cs : List (Nat × Nat)} {c k : Nat} (h : mc cs c k = true) : (c, k) ∈ cs := by simpa [mc] using h
def inb (i : Int32) (n : Nat) : Bool := decide (0 ≤ i.toInt) && decide (i.toInt < (n : Int))
theorem inb_in {i : Int32} {n : Nat} (h : inb i n = true) : vp_in i n := by
  simp only [inb, Bool.and_eq_true, decide_eq_true_eq] at h
  exact vp_in_iff.mpr h
/-! the pieces that the functions are made of -/
def lt_ {α β : Type} (x : α) (k : α → β) : β := k x
def ck {α : Type} (b : Bool) (x : Option α) : Option α := match b with
  | true => x
  | false => none
def ob {α β : Type} (x : Option (α × HS)) (k : α → HS → Option β) : Option β := match x with
  | some q => k q.1 q.2
  | none => none
theorem lt_e {α β : Type} {x : α} {k : α → β} {y : β} (h : lt_ x k = y) : ∃ z, z = x ∧ k z = y := ⟨x, rfl, h⟩
theorem ck_e {α : Type} {b : Bool} {x : Option α} {y : α} (h : ck b x = some y) : b = true ∧ x = some y := by
  cases b with
  | true => exact ⟨rfl, h⟩
  | false => cases h
theorem ob_e {α β : Type} {x : Option (α × HS)} {k : α → HS → Option β} {y : β} (h : ob x k = some y) : ∃ r s, x = some (r, s) ∧ k r s = some y := by
  cases x with
  | some q => exact ⟨q.1, q.2, rfl, h⟩
  | none => cases h
theorem if_t {α : Type} {c : Prop} [Decidable c] {a b y : α} (h : (if c then a else b) = y) (hc : c) : a = y := by rw [if_pos hc] at h; exact h
theorem if_f {α : Type} {c : Prop} [Decidable c] {a b y : α} (h : (if c then a else b) = y) (hc : ¬ c) : b = y := by rw [if_neg hc] at h; exact h
/-- 0 or 1 -/
def b01 (v : Int32) : Bool := decide (v = 0) || decide (v = 1)
theorem b01_n {v : Int32} (h : b01 v = true) : narrow .boolean (.int v) = .int v := by
  simp only [b01, Bool.or_eq_true, decide_eq_true_eq] at h
  rcases h with rfl | rfl <;> decide +kernel
theorem some_e {α : Type} {a b : α} {s t : HS} (h : some (a, s) = some (b, t)) : a = b ∧ s = t := by cases h; exact ⟨rfl, rfl⟩
def gn31 (k : Nat) : Nat := match k with
  | 0 => 208
  | 1 => 4
  | 2 => 4
  | 3 => 6
  | 4 => 6
  | 5 => 6
  | 6 => 7
  | 7 => 7
  | 8 => 7
  | 9 => 7
  | 10 => 7
  | 11 => 7
  | 12 => 7
  | 13 => 7
  | 14 => 7
  | 15 => 7
  | 16 => 6
  | 17 => 24
  | 18 => 500
  | 19 => 96
  | 20 => 7
  | 21 => 7
  | 22 => 7
  | 23 => 7
  | _ => 4
def gn32 (k : Nat) : Nat := match k with
  | 0 => 312
  | _ => 512
/-- what a cell holds: region c, number k, its ints f, its longs g -/
def sh (cy : Nat → ClassId) (ad : Nat → Nat → Nat) (c k : Nat) (f : Nat → Int32) (g : Nat → Int64) : va_E := match c with
  | 0 => .inr (8, [.ref (ad 1 0), .ref (ad 2 0), .ref (ad 3 0), .ref (ad 8 0), .ref (ad 12 0), .ref (ad 20 (f 5).toNatClampNeg), .ref (ad 20 (f 6).toNatClampNeg), .int (f 7), .int (f 8), .int (f 9), .int (f 10)])
  | 1 => .inl (cy 4, 4, .inr (.inr (.inr (.inr (fun j => some (ad 4 j))))))
  | 2 => .inl (cy 5, 6, .inr (.inr (.inr (.inr (fun j => some (ad 6 j))))))
  | 3 => .inl (cy 6, 7, .inr (.inr (.inr (.inr (fun j => some (ad 7 j))))))
  | 4 => .inr (2, [.int (f 0), .ref (ad 5 k), .int (f 2), .int (f 3)])
  | 5 => .inl (cy 0, 52, .inl f)
  | 6 => .inr (3, [.int (f 0), .int (f 1), .int (f 2)])
  | 7 => .inr (6, [.int (f 0), .int (f 1), .int (f 2), .int (f 3), .int (f 4), .int (f 5), .int (f 6), .int (f 7), .int (f 8), .int (f 9), .int (f 10)])
  | 8 => .inr (1, [.ref (ad 9 0), .int (f 1), .int (f 2), .int (f 3), .ref (ad 11 0)])
  | 9 => .inr (7, [.int (f 0), .int (f 1), .int (f 2), .int (f 3), .ref (ad 10 0), .int (f 5)])
  | 10 => .inl (cy 1, 500, .inl f)
  | 11 => .inl (cy 0, 3, .inl f)
  | 12 => .inr (4, [.int (f 0), .int (f 1), .ref (ad 13 0), .ref (ad 13 1), .ref (ad 13 2), .ref (ad 13 3), .int (f 6), .ref (ad 14 0), .ref (ad 15 0), .ref (ad 16 0), .ref (ad 16 1), .ref (ad 16 2), .ref (ad 17 0), .ref (ad 17 1), .ref (ad 18 0)])
  | 13 => .inl (cy 0, 7, .inl f)
  | 14 => .inr (0, [.int (f 0), .int (f 1)])
  | 15 => .inl (cy 3, 128, .inl f)
  | 16 => .inl (cy 0, 128, .inl f)
  | 17 => .inl (cy 2, 128, .inr (.inl g))
  | 18 => .inl (cy 7, 4, .inr (.inr (.inr (.inr (fun j => some (ad 19 j))))))
  | 19 => .inl (cy 0, 128, .inl f)
  | 20 => .inr (5, [.ref (ad 21 k), .ref (ad 22 k), .ref (ad 24 k)])
  | 21 => .inl (cy 0, 6, .inl f)
  | 22 => .inl (cy 7, 6, .inr (.inr (.inr (.inr (fun j => some (ad 23 (6 * k + j)))))))
  | 23 => .inl (cy 0, 4, .inl f)
  | 24 => .inl (cy 2, 6, .inr (.inl g))
  | 30 => .inr (9, [.int (f 0), .int (f 1), .int (f 2), .ref (ad 31 0), .ref (ad 31 1), .ref (ad 31 2), .ref (ad 31 3), .ref (ad 31 4), .ref (ad 31 5), .ref (ad 31 6), .ref (ad 31 7), .ref (ad 31 8), .ref (ad 31 9), .ref (ad 31 10), .ref (ad 31 11), .ref (ad 31 12), .ref (ad 31 13), .ref (ad 31 14), .ref (ad 31 15), .ref (ad 31 16), .ref (ad 31 17), .ref (ad 32 0), .ref (ad 31 18), .ref (ad 31 19), .int (f 24), .int (f 25), .int (f 26), .int (f 27), .int (f 28), .int (f 29), .int (f 30), .int (f 31), .int (f 32), .int (f 33), .int (f 34), .ref (ad 31 20), .int (f 36), .ref (ad 31 21), .ref (ad 32 1), .ref (ad 31 22), .ref (ad 31 23), .ref (ad 31 24), .int (f 42), .int (f 43)])
  | 31 => .inl (cy 0, (gn31 k), .inl f)
  | 32 => .inl (cy 3, (gn32 k), .inl f)
  | _ => .inr (0, [])
/-- how many cells a region has -/
def cnt (c : Nat) : Nat := match c with
  | 0 => 1
  | 1 => 1
  | 2 => 1
  | 3 => 1
  | 4 => 4
  | 5 => 4
  | 6 => 6
  | 7 => 7
  | 8 => 1
  | 9 => 1
  | 10 => 1
  | 11 => 1
  | 12 => 1
  | 13 => 4
  | 14 => 1
  | 15 => 1
  | 16 => 3
  | 17 => 2
  | 18 => 1
  | 19 => 4
  | 20 => 2
  | 21 => 2
  | 22 => 2
  | 23 => 12
  | 24 => 2
  | 30 => 1
  | 31 => 25
  | 32 => 2
  | _ => 0
abbrev tyl (cy : Nat → ClassId) : List (ClassId × FieldType) := [(cy 0, .int), (cy 1, .byte), (cy 2, .long), (cy 3, .boolean), (cy 4, .object "GlassValley$Family"), (cy 5, .object "GlassValley$Pattern"), (cy 6, .object "GlassValley$ShipOrder"), (cy 7, .array .int)]
/-! the world: the live cells cs at the addresses ad -/
def Wd (cs : List (Nat × Nat)) (cy : Nat → ClassId) (ad : Nat → Nat → Nat) (s : HS) : va_W := cs.map fun q => (ad q.1 q.2, sh cy ad q.1 q.2 (s.1 q.1 q.2) (s.2 q.1 q.2))
/-- the addresses are apart -/
def AdOk (cs : List (Nat × Nat)) (ad : Nat → Nat → Nat) : Prop := ∀ (i j : Nat) (x y : Nat × Nat), cs[i]? = some x → cs[j]? = some y → ad x.1 x.2 = ad y.1 y.2 → i = j
def gA (cs : List (Nat × Nat)) (ad : Nat → Nat → Nat) : Nat → Prop := fun q => ∃ x ∈ cs, q = ad x.1 x.2
theorem wd_q {cs : List (Nat × Nat)} {cy : Nat → ClassId} {ad : Nat → Nat → Nat} {s : HS} {i : Nat} {q : Nat × va_E} (h : (Wd cs cy ad s)[i]? = some q) : ∃ x, cs[i]? = some x ∧ q = (ad x.1 x.2, sh cy ad x.1 x.2 (s.1 x.1 x.2) (s.2 x.1 x.2)) := by
  unfold Wd at h
  rw [List.getElem?_map] at h
  cases hx : cs[i]? with
  | none => rw [hx] at h; cases h
  | some x => rw [hx] at h; exact ⟨x, rfl, (Option.some.inj h).symm⟩
theorem wd_i {cs : List (Nat × Nat)} {cy : Nat → ClassId} {ad : Nat → Nat → Nat} {s : HS} {i : Nat} {x : Nat × Nat} (h : cs[i]? = some x) : (Wd cs cy ad s)[i]? = some (ad x.1 x.2, sh cy ad x.1 x.2 (s.1 x.1 x.2) (s.2 x.1 x.2)) := by
  unfold Wd
  rw [List.getElem?_map, h]
  rfl
theorem wd_D {cs : List (Nat × Nat)} {cy : Nat → ClassId} {ad : Nat → Nat → Nat} {s : HS} (hA : AdOk cs ad) : va_D (gA cs ad) (Wd cs cy ad s) := by
  refine ⟨fun i j p q hi hj e => ?_, fun k q hk => ?_⟩
  · obtain ⟨x, hx, rfl⟩ := wd_q hi
    obtain ⟨y, hy, rfl⟩ := wd_q hj
    exact hA i j x y hx hy e
  · obtain ⟨x, hx, rfl⟩ := wd_q hk
    exact ⟨x, List.mem_of_getElem? hx, rfl⟩
theorem wd_at {cs : List (Nat × Nat)} {c k : Nat} (h : mc cs c k = true) : ∃ i : Nat, cs[i]? = some (c, k) := List.getElem?_of_mem (mc_mem h)
theorem wd_set {cs : List (Nat × Nat)} {cy : Nat → ClassId} {ad : Nat → Nat → Nat} {s s' : HS} (hA : AdOk cs ad) {i c k : Nat} {e : va_E} (hi : cs[i]? = some (c, k)) (he : sh cy ad c k (s'.1 c k) (s'.2 c k) = e) (hs : ∀ c' k', ¬ (c' = c ∧ k' = k) → s'.1 c' k' = s.1 c' k' ∧ s'.2 c' k' = s.2 c' k') : (Wd cs cy ad s).set i (ad c k, e) = Wd cs cy ad s' := by
  apply List.ext_getElem?
  intro j
  rw [List.getElem?_set]
  by_cases hij : i = j
  · subst hij
    have hlt : i < (Wd cs cy ad s).length := by
      have := (List.getElem?_eq_some_iff.mp hi).1
      simpa [Wd] using this
    rw [if_pos rfl, if_pos hlt, wd_i hi, ← he]
  · rw [if_neg hij]
    unfold Wd
    rw [List.getElem?_map, List.getElem?_map]
    cases hx : cs[j]? with
    | none => rfl
    | some x =>
      have hne : ¬ (x.1 = c ∧ x.2 = k) := fun h => hij (hA i j (c, k) x hi hx (by rw [h.1, h.2]))
      obtain ⟨h1, h2⟩ := hs x.1 x.2 hne
      simp only [Option.map_some, h1, h2]
/-! what else the methods look at: rows that nobody writes, texts, words of nest mates -/
def sTb (k : Nat) : List Int32 := match k with
  | 0 => [12, 5, 13, 2]
  | 1 => [12, 7, 13, 8, 14, 2]
  | 2 => [12, 10, 14, 7, 15, 2]
  | 3 => [12, 2]
  | _ => [15625, 3125, 625, 125, 25, 5, 1]
def sNm (k : Nat) : String := match k with
  | 0 => "OWN_FORM"
  | 1 => "LEND_FORM"
  | 2 => "BAR_FORM"
  | 3 => "FREE_FORM"
  | _ => "ORDER_UNITS"
def sLn (k : Nat) : Nat := (sTb k).length
def sVl (k j : Nat) : Int32 := (sTb k).getD j 0
def lenK : List Nat := [3, 2, 4, 2, 5, 3, 4, 4]
def bytK : List (List Int32) := [[111, 119, 110], [98, 121], [108, 101, 110, 100], [116, 111], [117, 110, 116, 105, 108], [98, 97, 114], [102, 114, 111, 109], [102, 114, 101, 101]]
def ixK : List Nat := [54, 60, 62, 64, 66, 68, 70, 72]
def txK : List String := ["own", "by", "lend", "to", "until", "bar", "from", "free"]
def nwl : List Cond := [.methodLinkNest RX1 88 yX8_isWithin RX8, .fieldLinkNest RX1 66 RX8 "OWN_FORM" "[I" RX8, .fieldLinkNest RX1 69 RX8 "LEND_FORM" "[I" RX8, .fieldLinkNest RX1 72 RX8 "BAR_FORM" "[I" RX8, .fieldLinkNest RX1 75 RX8 "FREE_FORM" "[I" RX8, .fieldLinkNest RX4 124 RX8 "ORDER_UNITS" "[I" RX8]
def fmtv (ad : Nat → Nat → Nat) : Value := va_rf (if ad 43 0 = 0 then none else some (ad 43 0 - 1))
def gZ (cs : List (Nat × Nat)) (ad : Nat → Nat → Nat) (U : State) : Prop :=
  (∀ k, k < 5 → va_Z RX8 (sNm k) "[I" (.ref (ad 40 k)) (gA cs ad) U U.heap ∧ va_T .int (ad 40 k) (sLn k) (fun j => .int (sVl k j)) (gA cs ad) U U.heap) ∧
  (∀ w ∈ nwl, va_Nw w U) ∧
  vk_S 8 lenK bytK (ad 41) (ad 42) (gA cs ad) U U.heap ∧
  (∀ i, i < 8 → vk_R RX7 (ixK.getD i 0) (txK.getD i "") (ad 41 i) U) ∧
  va_Z "java/lang/String" "COMPACT_STRINGS" "Z" (.int 1) (gA cs ad) U U.heap ∧
  va_Z "jdk/internal/util/Preconditions" "SIOOBE_FORMATTER" "Ljava/util/function/BiFunction;" (fmtv ad) (gA cs ad) U U.heap
theorem nw_warm {s U : State} (hW : s.WarmedH U.vm) (h : ∀ w ∈ nwl, va_Nw w s) : ∀ w ∈ nwl, va_Nw w U := by
  intro w hw
  have h1 := h w hw
  simp only [nwl, List.mem_cons, List.not_mem_nil, or_false] at hw
  rcases hw with rfl | rfl | rfl | rfl | rfl | rfl <;> first | exact va_Nw.warmF hW h1 | exact va_Nw.warmM hW h1
theorem nw_tab : ∀ w ∈ nwl, w.onTables = true := by decide +kernel
theorem gZ_moved {cs : List (Nat × Nat)} {ad : Nat → Nat → Nat} {s U : State} (hW : s.WarmedH U.vm) (hh : ∀ q : Nat, q < s.heap.size → ¬ gA cs ad q → U.heap[q]? = s.heap[q]?) (h : gZ cs ad s) : gZ cs ad U := by
  obtain ⟨h1, h2, h3, h4, h5, h6⟩ := h
  exact ⟨fun k hk => ⟨(va_Z.moved hW.alike (h1 k hk).1).kept hh, (va_T.moved hW.alike (h1 k hk).2).kept hh⟩, nw_warm hW h2, (vk_S.moved hW.alike h3).kept hh, fun i hi => (h4 i hi).warm hW, (va_Z.moved hW.alike h5).kept hh, (va_Z.moved hW.alike h6).kept hh⟩
theorem gZ_calling {cs : List (Nat × Nat)} {ad : Nat → Nat → Nat} {U : State} {g : JFrame} {mk : MethodId} {a : Array Value} (h : gZ cs ad U) : gZ cs ad (U.calling g mk a) := by
  obtain ⟨h1, h2, h3, h4, h5, h6⟩ := h
  have e : U.vm.Alike (U.calling g mk a).vm := Vm.Alike.refl U.vm
  exact ⟨fun k hk => ⟨va_Z.moved e (h1 k hk).1, va_T.moved e (h1 k hk).2⟩, fun w hw => va_Nw.same (u := U) (nw_tab w hw) rfl (h2 w hw), vk_S.moved e h3, fun i hi => (h4 i hi).same rfl, va_Z.moved e h5, va_Z.moved e h6⟩
def Bd (p : Program) (s : State) (m : MethodId) (args : Array Value) (meth : Method) (c : Code) (D : va_G) (cy : Nat → ClassId) (cs : List (Nat × Nat)) (ad : Nat → Nat → Nat) (cc : ByteArray) (nL : Nat) (own : String) (ret : Option FieldType) : Prop :=
  p.tables.exec = Jvm.exec ∧ c.code = cc ∧ c.maxLocals = nL ∧ s.vm.findClass own = some m.cls ∧ (∀ w ∈ gw, w.before args s = true) ∧ va_K D vwCl (tyl cy) s ∧ AdOk cs ad ∧ meth.sig.returnType = ret ∧ meth.locks = false ∧ gZ cs ad s
/-- from every heap that holds S, at pc with these locals and this stack, the machine comes to Q -/
def GW (p : Program) (l : Launch) (e : Env) (R : Room) (s : State) (m : MethodId) (args : Array Value) (below : List Frame) (meth : Method) (c : Code) (Q : State → Prop) (D : va_G) (cy : Nat → ClassId) (cs : List (Nat × Nat)) (ad : Nat → Nat → Nat) (nL pc : Nat) (lv : List (Nat × Value)) (st : List Value) (S : HS) : Prop :=
  ∀ (H : Heap) (locs : List Loc) (ls : Array Slot), va_P D vwCl (Wd cs cy ad S) H → va_S (gA cs ad) s.heap H locs → lv_has ls nL lv → W p l e R s m args below meth c H locs 0 0 Q (F0 m pc ls st)
/-- a method's end: its answer, the state behind it, and nothing else changed -/
def QR (D : va_G) (cy : Nat → ClassId) (cs : List (Nat × Nat)) (ad : Nat → Nat → Nat) (o : Option Value) (S1 : HS) : Array Value → State → Outcome → State → Prop := fun _ st oc t => oc = .returned o ∧ va_P D vwCl (Wd cs cy ad S1) t.heap ∧ va_F (gA cs ad) st t
abbrev QM (below : List Frame) (args : Array Value) (s : State) (D : va_G) (cy : Nat → ClassId) (cs : List (Nat × Nat)) (ad : Nat → Nat → Nat) (o : Option Value) (S1 : HS) : State → Prop := MQ below (QR D cy cs ad o S1) args s 0 0 (gA cs ad)
/-- the contract of a method: from S0 with these arguments it answers o and leaves S1 -/
def Ctr (l : Launch) (y : MethodName) (cc : ByteArray) (nL : Nat) (ret : Option FieldType) (rm : Room) (D : va_G) (cy : Nat → ClassId) (cs : List (Nat × Nat)) (ad : Nat → Nat → Nat) (av : List Value) (S0 : HS) (o : Option Value) (S1 : HS) : Prop :=
  Met l y (Cond.code y cc nL ret :: gw) rm (va_Pc av (fun U => va_P D vwCl (Wd cs cy ad S0) U.heap ∧ va_K D vwCl (tyl cy) U ∧ gZ cs ad U)) (QR D cy cs ad o S1) 0 0 (gA cs ad)
theorem Ctr.of {l : Launch} {y : MethodName} {cc : ByteArray} {nL : Nat} {ret : Option FieldType} {rm : Room} {D : va_G} {cy : Nat → ClassId} {cs : List (Nat × Nat)} {ad : Nat → Nat → Nat} {av : List Value} {S0 : HS} {o : Option Value} {S1 : HS} (hA : AdOk cs ad) (own : String) (hy : plainFor y = true) (ho : y.cls = own) (lv : List (Nat × Value)) (hlv : lv_args 0 av = lv) (hn : (lg_sl av).length ≤ nL)
    (body : ∀ (p : Program) (e : Env) (s : State) (m : MethodId) (below : List Frame) (meth : Method) (c : Code), Bd p s m av.toArray meth c D cy cs ad cc nL own ret → GW p l e rm s m av.toArray below meth c (QM below av.toArray s D cy cs ad o S1) D cy cs ad nL 0 lv [] S0) : Ctr l y cc nL ret rm D cy cs ad av S0 o S1 := by
  unfold Ctr Met
  refine MetFree.of_bodySF (code := cc) (maxLocals := nL) (ret := ret) hy ?_ ?_
  · intro args s m h hn'
    obtain ⟨meth, c, h1, h2, h3, h4, h5, h6, -, -⟩ := Cond.code_spec hn' (atoms_spec (ws := Cond.code y cc nL ret :: gw) h _ List.mem_cons_self)
    exact ⟨meth, c, h1, h2, h3, h4, h5, h6⟩
  · intro p e s m args below meth c s₁ B hml hv _
    have hh0 : s₁.heap = s.heap := by rw [B.state]; rfl
    obtain ⟨rfl, hP, hK, hZ⟩ := hv
    have hts := atoms_spec (ws := Cond.code y cc nL ret :: gw) B.pre
    have hown : s.vm.findClass own = some m.cls := by rw [← ho]; exact findClass_of_methodNamed B.named
    have hl := lv_entry av (n := nL) hn
    rw [hlv] at hl
    have hw := body p e s m below meth c ⟨B.exec, B.bytes, hml, hown, fun w hw => hts w (List.mem_cons_of_mem _ hw), hK, hA, B.returns, B.notSynchronized, hZ⟩ s.heap [] _ hP va_S.rf hl
    rw [← lg_entry_eq] at hw
    obtain ⟨t, a1, o, b1, b2, b3⟩ := hw s₁ hh0 (Stand.of_body B)
    exact ⟨t, o, a1, b1, b2, ⟨b3.1, b3.2⟩⟩
section GR
variable {p : Program} {l : Launch} {e : Env} {R : Room} {s : State} {m : MethodId} {args : Array Value} {below : List Frame} {meth : Method} {c : Code} {Q : State → Prop} {D : va_G} {cy : Nat → ClassId} {cs : List (Nat × Nat)} {ad : Nat → Nat → Nat} {nL pc : Nat} {lv lv' : List (Nat × Value)} {rest : List Value} {S : HS} {cc : ByteArray} {own : String} {ret : Option FieldType}
theorem g_sub (ks : List Nat) (hk : lv_pick lv ks = lv') (kk : GW p l e R s m args below meth c Q D cy cs ad nL pc lv' rest S) : GW p l e R s m args below meth c Q D cy cs ad nL pc lv rest S := fun H locs ls hP hS h => kk H locs ls hP hS (lv_sub h ks hk)
theorem g_get (B : Bd p s m args meth c D cy cs ad cc nL own ret) {k0 k1 ci N j index : Nat} {fs : List Value} {C ref : String} {T : u_T} {v : Value} (hm : mc cs k0 k1 = true) (hsh : sh cy ad k0 k1 (S.1 k0 k1) (S.2 k0 k1) = .inr (ci, fs)) (hc : vwCl[ci]? = some (C, T, N)) (hj : j < N) (hv : fs[j]? = some v) (hin : ∀ w ∈ u_ws C T N, w ∈ gw) (hr : (T j).1 = ref) (hlink : Cond.fieldLink own index ref (T j).2.1 (T j).2.2.1 ∈ gw) (d : decode cc pc = .ok (.getfield index, 3)) (kk : GW p l e R s m args below meth c Q D cy cs ad nL (pc + 3) lv (v :: rest) S) : GW p l e R s m args below meth c Q D cy cs ad nL pc lv (.ref (ad k0 k1) :: rest) S := by
  intro H locs ls hP hS h
  obtain ⟨hx, hb, -, hown, hts, hK, -⟩ := B
  obtain ⟨i, hi⟩ := wd_at hm
  subst hr
  exact va_get hx hb hts hin hown hK hP i (by rw [wd_i hi]; exact congrArg (fun z => some (ad k0 k1, z)) hsh) hc j hj (hts _ hlink) (fun _ h9 => h9) hv d (kk H locs ls hP hS h)
theorem g_put (B : Bd p s m args meth c D cy cs ad cc nL own ret) {k0 k1 ci N j index : Nat} {fs : List Value} {C ref : String} {T : u_T} {ty0 : Nat → FieldType} {v : Value} {S' : HS} (hm : mc cs k0 k1 = true) (hsh : sh cy ad k0 k1 (S.1 k0 k1) (S.2 k0 k1) = .inr (ci, fs)) (hc : vwCl[ci]? = some (C, T, N)) (hj : j < N) (hl : j < fs.length) (hin : ∀ w ∈ u_ws C T N, w ∈ gw) (hty : ∀ k, k < N → parseFieldDescriptor (T k).2.2.1 = some (ty0 k)) (hnm : ∀ a, a < N → ∀ b, b < N → a ≠ b → (T a).2.1 ≠ (T b).2.1) (hr : (T j).1 = ref) (hlink : Cond.fieldLink own index ref (T j).2.1 (T j).2.2.1 ∈ gw) (hfin : (T j).2.2.2 = false) (hn : narrow (ty0 j) v = v) (hfit : fits (ty0 j) v = true)
    (hsh' : sh cy ad k0 k1 (S'.1 k0 k1) (S'.2 k0 k1) = .inr (ci, fs.set j v)) (hs : ∀ c' k', ¬ (c' = k0 ∧ k' = k1) → S'.1 c' k' = S.1 c' k' ∧ S'.2 c' k' = S.2 c' k') (d : decode cc pc = .ok (.putfield index, 3)) (kk : GW p l e R s m args below meth c Q D cy cs ad nL (pc + 3) lv rest S') : GW p l e R s m args below meth c Q D cy cs ad nL pc lv (v :: .ref (ad k0 k1) :: rest) S := by
  intro H locs ls hP hS h
  obtain ⟨hx, hb, -, hown, hts, hK, hA, -⟩ := B
  obtain ⟨i, hi⟩ := wd_at hm
  subst hr
  refine va_put (ty := ty0 j) hx hb hts hin ty0 hty hnm hown hK hP (wd_D hA) hS i (by rw [wd_i hi]; exact congrArg (fun z => some (ad k0 k1, z)) hsh) hc j hj (hts _ hlink) (fun _ h9 => h9) hfin (hty j hj) hn hfit hl d (fun H1 locs1 hP1 _ hS1 => ?_)
  rw [wd_set hA hi hsh' hs] at hP1
  exact kk H1 locs1 ls hP1 hS1 h
end GR
section GI
variable {p : Program} {l : Launch} {e : Env} {R : Room} {s : State} {m : MethodId} {args : Array Value} {below : List Frame} {meth : Method} {c : Code} {Q : State → Prop} {D : va_G} {cy : Nat → ClassId} {cs : List (Nat × Nat)} {ad : Nat → Nat → Nat} {nL pc : Nat} {lv lv' : List (Nat × Value)} {rest : List Value} {S : HS} {cc : ByteArray} {own : String} {ret : Option FieldType}
theorem g_iconst (B : Bd p s m args meth c D cy cs ad cc nL own ret) {n : Int} {v : Int32} (d : decode cc pc = .ok (.iconst n, 1)) (hv : Int32.ofInt n = v) (kk : GW p l e R s m args below meth c Q D cy cs ad nL (pc + 1) lv (.int v :: rest) S) : GW p l e R s m args below meth c Q D cy cs ad nL pc lv (rest) S := fun H locs ls hP hS h => lv_iconst B.1 B.2.1 d hv (kk H locs ls hP hS h)
theorem g_bipush (B : Bd p s m args meth c D cy cs ad cc nL own ret) {n : Int} {v : Int32} (d : decode cc pc = .ok (.bipush n, 2)) (hv : (Int8.ofInt n).toInt32 = v) (kk : GW p l e R s m args below meth c Q D cy cs ad nL (pc + 2) lv (.int v :: rest) S) : GW p l e R s m args below meth c Q D cy cs ad nL pc lv (rest) S := fun H locs ls hP hS h => lv_bipush B.1 B.2.1 d hv (kk H locs ls hP hS h)
theorem g_sipush (B : Bd p s m args meth c D cy cs ad cc nL own ret) {n : Int} {v : Int32} (d : decode cc pc = .ok (.sipush n, 3)) (hv : (Int16.ofInt n).toInt32 = v) (kk : GW p l e R s m args below meth c Q D cy cs ad nL (pc + 3) lv (.int v :: rest) S) : GW p l e R s m args below meth c Q D cy cs ad nL pc lv (rest) S := fun H locs ls hP hS h => lv_sipush B.1 B.2.1 d hv (kk H locs ls hP hS h)
theorem g_lconst (B : Bd p s m args meth c D cy cs ad cc nL own ret) {n : Fin 2} {v : Int64} (d : decode cc pc = .ok (.lconst n, 1)) (hv : Int64.ofNat (n : Nat) = v) (kk : GW p l e R s m args below meth c Q D cy cs ad nL (pc + 1) lv (.long v :: rest) S) : GW p l e R s m args below meth c Q D cy cs ad nL pc lv (rest) S := fun H locs ls hP hS h => lv_lconst B.1 B.2.1 d hv (kk H locs ls hP hS h)
theorem g_ldc (B : Bd p s m args meth c D cy cs ad cc nL own ret) {index : Nat} {v : Int32} (d : decode cc pc = .ok (.ldc index, 2)) (hw : Cond.constant own index v ∈ gw) (kk : GW p l e R s m args below meth c Q D cy cs ad nL (pc + 2) lv (.int v :: rest) S) : GW p l e R s m args below meth c Q D cy cs ad nL pc lv (rest) S := fun H locs ls hP hS h => lv_ldc B.1 B.2.1 B.2.2.2.1 (B.2.2.2.2.1 _ hw) d (kk H locs ls hP hS h)
theorem g_ldc2 (B : Bd p s m args meth c D cy cs ad cc nL own ret) {index : Nat} {v : Int64} (d : decode cc pc = .ok (.ldc2_w index, 3)) (hw : Cond.constantLong own index v ∈ gw) (kk : GW p l e R s m args below meth c Q D cy cs ad nL (pc + 3) lv (.long v :: rest) S) : GW p l e R s m args below meth c Q D cy cs ad nL pc lv (rest) S := fun H locs ls hP hS h => lv_ldc2 B.1 B.2.1 B.2.2.2.1 (B.2.2.2.2.1 _ hw) d (kk H locs ls hP hS h)
theorem g_iload_n (B : Bd p s m args meth c D cy cs ad cc nL own ret) {k : Fin 4} {i : Nat} {x : Int32} (d : decode cc pc = .ok (.iload_n k, 1)) (j : Nat) (hl : lv[j]? = some (i, .int x)) (hi : (k : Nat) = i) (kk : GW p l e R s m args below meth c Q D cy cs ad nL (pc + 1) lv (.int x :: rest) S) : GW p l e R s m args below meth c Q D cy cs ad nL pc lv (rest) S := fun H locs ls hP hS h => lv_iload_n B.1 B.2.1 d hi (lv_at h j hl) (kk H locs ls hP hS h)
theorem g_iload (B : Bd p s m args meth c D cy cs ad cc nL own ret) {i : Nat} {x : Int32} (d : decode cc pc = .ok (.iload i, 2)) (j : Nat) (hl : lv[j]? = some (i, .int x)) (kk : GW p l e R s m args below meth c Q D cy cs ad nL (pc + 2) lv (.int x :: rest) S) : GW p l e R s m args below meth c Q D cy cs ad nL pc lv (rest) S := fun H locs ls hP hS h => lv_iload B.1 B.2.1 d (lv_at h j hl) (kk H locs ls hP hS h)
theorem g_lload_n (B : Bd p s m args meth c D cy cs ad cc nL own ret) {k : Fin 4} {i : Nat} {x : Int64} (d : decode cc pc = .ok (.lload_n k, 1)) (j : Nat) (hl : lv[j]? = some (i, .long x)) (hi : (k : Nat) = i) (kk : GW p l e R s m args below meth c Q D cy cs ad nL (pc + 1) lv (.long x :: rest) S) : GW p l e R s m args below meth c Q D cy cs ad nL pc lv (rest) S := fun H locs ls hP hS h => lv_lload_n B.1 B.2.1 d hi (lv_at h j hl) (kk H locs ls hP hS h)
theorem g_lload (B : Bd p s m args meth c D cy cs ad cc nL own ret) {i : Nat} {x : Int64} (d : decode cc pc = .ok (.lload i, 2)) (j : Nat) (hl : lv[j]? = some (i, .long x)) (kk : GW p l e R s m args below meth c Q D cy cs ad nL (pc + 2) lv (.long x :: rest) S) : GW p l e R s m args below meth c Q D cy cs ad nL pc lv (rest) S := fun H locs ls hP hS h => lv_lload B.1 B.2.1 d (lv_at h j hl) (kk H locs ls hP hS h)
theorem g_aload_n (B : Bd p s m args meth c D cy cs ad cc nL own ret) {k : Fin 4} {i : Nat} {x : Nat} (d : decode cc pc = .ok (.aload_n k, 1)) (j : Nat) (hl : lv[j]? = some (i, .ref x)) (hi : (k : Nat) = i) (kk : GW p l e R s m args below meth c Q D cy cs ad nL (pc + 1) lv (.ref x :: rest) S) : GW p l e R s m args below meth c Q D cy cs ad nL pc lv (rest) S := fun H locs ls hP hS h => lv_aload_n B.1 B.2.1 d hi (lv_at h j hl) (kk H locs ls hP hS h)
theorem g_aload (B : Bd p s m args meth c D cy cs ad cc nL own ret) {i : Nat} {x : Nat} (d : decode cc pc = .ok (.aload i, 2)) (j : Nat) (hl : lv[j]? = some (i, .ref x)) (kk : GW p l e R s m args below meth c Q D cy cs ad nL (pc + 2) lv (.ref x :: rest) S) : GW p l e R s m args below meth c Q D cy cs ad nL pc lv (rest) S := fun H locs ls hP hS h => lv_aload B.1 B.2.1 d (lv_at h j hl) (kk H locs ls hP hS h)
theorem g_istore_n (B : Bd p s m args meth c D cy cs ad cc nL own ret) {k : Fin 4} {i : Nat} {x : Int32} (d : decode cc pc = .ok (.istore_n k, 1)) (hi : (k : Nat) = i) (hn : i < nL) (hl : (i, Value.int x) :: lv.filter (fun q => !(q.1 == i) && !(q.1 + 1 == i && q.2.category == 2)) = lv') (kk : GW p l e R s m args below meth c Q D cy cs ad nL (pc + 1) lv' rest S) : GW p l e R s m args below meth c Q D cy cs ad nL pc lv (.int x :: rest) S := fun H locs ls hP hS h => lv_istore_n B.1 B.2.1 d hi h hn hl (fun ls' h' => kk H locs ls' hP hS h')
theorem g_istore (B : Bd p s m args meth c D cy cs ad cc nL own ret) {i : Nat} {x : Int32} (d : decode cc pc = .ok (.istore i, 2)) (hn : i < nL) (hl : (i, Value.int x) :: lv.filter (fun q => !(q.1 == i) && !(q.1 + 1 == i && q.2.category == 2)) = lv') (kk : GW p l e R s m args below meth c Q D cy cs ad nL (pc + 2) lv' rest S) : GW p l e R s m args below meth c Q D cy cs ad nL pc lv (.int x :: rest) S := fun H locs ls hP hS h => lv_istore B.1 B.2.1 d h hn hl (fun ls' h' => kk H locs ls' hP hS h')
theorem g_lstore_n (B : Bd p s m args meth c D cy cs ad cc nL own ret) {k : Fin 4} {i : Nat} {x : Int64} (d : decode cc pc = .ok (.lstore_n k, 1)) (hi : (k : Nat) = i) (hn : i + 1 < nL) (hl : (i, Value.long x) :: lv.filter (fun q => !(q.1 == i) && (!(q.1 == i + 1) && !(q.1 + 1 == i && q.2.category == 2))) = lv') (kk : GW p l e R s m args below meth c Q D cy cs ad nL (pc + 1) lv' rest S) : GW p l e R s m args below meth c Q D cy cs ad nL pc lv (.long x :: rest) S := fun H locs ls hP hS h => lv_lstore_n B.1 B.2.1 d hi h hn hl (fun ls' h' => kk H locs ls' hP hS h')
theorem g_lstore (B : Bd p s m args meth c D cy cs ad cc nL own ret) {i : Nat} {x : Int64} (d : decode cc pc = .ok (.lstore i, 2)) (hn : i + 1 < nL) (hl : (i, Value.long x) :: lv.filter (fun q => !(q.1 == i) && (!(q.1 == i + 1) && !(q.1 + 1 == i && q.2.category == 2))) = lv') (kk : GW p l e R s m args below meth c Q D cy cs ad nL (pc + 2) lv' rest S) : GW p l e R s m args below meth c Q D cy cs ad nL pc lv (.long x :: rest) S := fun H locs ls hP hS h => lv_lstore B.1 B.2.1 d h hn hl (fun ls' h' => kk H locs ls' hP hS h')
theorem g_astore_n (B : Bd p s m args meth c D cy cs ad cc nL own ret) {k : Fin 4} {i : Nat} {x : Nat} (d : decode cc pc = .ok (.astore_n k, 1)) (hi : (k : Nat) = i) (hn : i < nL) (hl : (i, Value.ref x) :: lv.filter (fun q => !(q.1 == i) && !(q.1 + 1 == i && q.2.category == 2)) = lv') (kk : GW p l e R s m args below meth c Q D cy cs ad nL (pc + 1) lv' rest S) : GW p l e R s m args below meth c Q D cy cs ad nL pc lv (.ref x :: rest) S := fun H locs ls hP hS h => lv_astore_n B.1 B.2.1 d hi h hn hl (fun ls' h' => kk H locs ls' hP hS h')
theorem g_astore (B : Bd p s m args meth c D cy cs ad cc nL own ret) {i : Nat} {x : Nat} (d : decode cc pc = .ok (.astore i, 2)) (hn : i < nL) (hl : (i, Value.ref x) :: lv.filter (fun q => !(q.1 == i) && !(q.1 + 1 == i && q.2.category == 2)) = lv') (kk : GW p l e R s m args below meth c Q D cy cs ad nL (pc + 2) lv' rest S) : GW p l e R s m args below meth c Q D cy cs ad nL pc lv (.ref x :: rest) S := fun H locs ls hP hS h => lv_astore B.1 B.2.1 d h hn hl (fun ls' h' => kk H locs ls' hP hS h')
theorem g_iinc (B : Bd p s m args meth c D cy cs ad cc nL own ret) {i k : Nat} {n : Int} {x v : Int32} (d : decode cc pc = .ok (.iinc i n, 3)) (hk : lv[k]? = some (i, .int x)) (hv : x + Int32.ofInt n = v) (hn : i < nL) (hl : (i, Value.int v) :: lv.filter (fun q => !(q.1 == i) && !(q.1 + 1 == i && q.2.category == 2)) = lv') (kk : GW p l e R s m args below meth c Q D cy cs ad nL (pc + 3) lv' rest S) : GW p l e R s m args below meth c Q D cy cs ad nL pc lv rest S := fun H locs ls hP hS h => lv_iinc B.1 B.2.1 d h hk hv hn hl (fun ls' h' => kk H locs ls' hP hS h')
theorem g_iadd (B : Bd p s m args meth c D cy cs ad cc nL own ret) {x y : Int32} (d : decode cc pc = .ok (.iadd, 1))  (kk : GW p l e R s m args below meth c Q D cy cs ad nL (pc + 1) lv (.int (x + y) :: rest) S) : GW p l e R s m args below meth c Q D cy cs ad nL pc lv (.int y :: .int x :: rest) S := fun H locs ls hP hS h => lv_iadd B.1 B.2.1 d (kk H locs ls hP hS h)
theorem g_isub (B : Bd p s m args meth c D cy cs ad cc nL own ret) {x y : Int32} (d : decode cc pc = .ok (.isub, 1))  (kk : GW p l e R s m args below meth c Q D cy cs ad nL (pc + 1) lv (.int (x - y) :: rest) S) : GW p l e R s m args below meth c Q D cy cs ad nL pc lv (.int y :: .int x :: rest) S := fun H locs ls hP hS h => lv_isub B.1 B.2.1 d (kk H locs ls hP hS h)
theorem g_imul (B : Bd p s m args meth c D cy cs ad cc nL own ret) {x y : Int32} (d : decode cc pc = .ok (.imul, 1))  (kk : GW p l e R s m args below meth c Q D cy cs ad nL (pc + 1) lv (.int (x * y) :: rest) S) : GW p l e R s m args below meth c Q D cy cs ad nL pc lv (.int y :: .int x :: rest) S := fun H locs ls hP hS h => lv_imul B.1 B.2.1 d (kk H locs ls hP hS h)
theorem g_iand (B : Bd p s m args meth c D cy cs ad cc nL own ret) {x y : Int32} (d : decode cc pc = .ok (.iand, 1))  (kk : GW p l e R s m args below meth c Q D cy cs ad nL (pc + 1) lv (.int (x &&& y) :: rest) S) : GW p l e R s m args below meth c Q D cy cs ad nL pc lv (.int y :: .int x :: rest) S := fun H locs ls hP hS h => lv_iand B.1 B.2.1 d (kk H locs ls hP hS h)
theorem g_ior (B : Bd p s m args meth c D cy cs ad cc nL own ret) {x y : Int32} (d : decode cc pc = .ok (.ior, 1))  (kk : GW p l e R s m args below meth c Q D cy cs ad nL (pc + 1) lv (.int (x ||| y) :: rest) S) : GW p l e R s m args below meth c Q D cy cs ad nL pc lv (.int y :: .int x :: rest) S := fun H locs ls hP hS h => lv_ior B.1 B.2.1 d (kk H locs ls hP hS h)
theorem g_ixor (B : Bd p s m args meth c D cy cs ad cc nL own ret) {x y : Int32} (d : decode cc pc = .ok (.ixor, 1))  (kk : GW p l e R s m args below meth c Q D cy cs ad nL (pc + 1) lv (.int (x ^^^ y) :: rest) S) : GW p l e R s m args below meth c Q D cy cs ad nL pc lv (.int y :: .int x :: rest) S := fun H locs ls hP hS h => lv_ixor B.1 B.2.1 d (kk H locs ls hP hS h)
theorem g_ishl (B : Bd p s m args meth c D cy cs ad cc nL own ret) {x y : Int32} (d : decode cc pc = .ok (.ishl, 1))  (kk : GW p l e R s m args below meth c Q D cy cs ad nL (pc + 1) lv (.int (x <<< (y &&& 31)) :: rest) S) : GW p l e R s m args below meth c Q D cy cs ad nL pc lv (.int y :: .int x :: rest) S := fun H locs ls hP hS h => lv_ishl B.1 B.2.1 d (kk H locs ls hP hS h)
theorem g_ishr (B : Bd p s m args meth c D cy cs ad cc nL own ret) {x y : Int32} (d : decode cc pc = .ok (.ishr, 1))  (kk : GW p l e R s m args below meth c Q D cy cs ad nL (pc + 1) lv (.int (x >>> (y &&& 31)) :: rest) S) : GW p l e R s m args below meth c Q D cy cs ad nL pc lv (.int y :: .int x :: rest) S := fun H locs ls hP hS h => lv_ishr B.1 B.2.1 d (kk H locs ls hP hS h)
theorem g_ineg (B : Bd p s m args meth c D cy cs ad cc nL own ret) {x : Int32} (d : decode cc pc = .ok (.ineg, 1))  (kk : GW p l e R s m args below meth c Q D cy cs ad nL (pc + 1) lv (.int (-x) :: rest) S) : GW p l e R s m args below meth c Q D cy cs ad nL pc lv (.int x :: rest) S := fun H locs ls hP hS h => lv_ineg B.1 B.2.1 d (kk H locs ls hP hS h)
theorem g_idiv (B : Bd p s m args meth c D cy cs ad cc nL own ret) {x y : Int32} (d : decode cc pc = .ok (.idiv, 1)) (hne : ¬ y = 0) (kk : GW p l e R s m args below meth c Q D cy cs ad nL (pc + 1) lv (.int (x / y) :: rest) S) : GW p l e R s m args below meth c Q D cy cs ad nL pc lv (.int y :: .int x :: rest) S := fun H locs ls hP hS h => lv_idiv B.1 B.2.1 d hne (kk H locs ls hP hS h)
theorem g_irem (B : Bd p s m args meth c D cy cs ad cc nL own ret) {x y : Int32} (d : decode cc pc = .ok (.irem, 1)) (hne : ¬ y = 0) (kk : GW p l e R s m args below meth c Q D cy cs ad nL (pc + 1) lv (.int (x - x / y * y) :: rest) S) : GW p l e R s m args below meth c Q D cy cs ad nL pc lv (.int y :: .int x :: rest) S := fun H locs ls hP hS h => lv_irem B.1 B.2.1 d hne (kk H locs ls hP hS h)
theorem g_ladd (B : Bd p s m args meth c D cy cs ad cc nL own ret) {x y : Int64} (d : decode cc pc = .ok (.ladd, 1))  (kk : GW p l e R s m args below meth c Q D cy cs ad nL (pc + 1) lv (.long (x + y) :: rest) S) : GW p l e R s m args below meth c Q D cy cs ad nL pc lv (.long y :: .long x :: rest) S := fun H locs ls hP hS h => lv_ladd B.1 B.2.1 d (kk H locs ls hP hS h)
theorem g_lsub (B : Bd p s m args meth c D cy cs ad cc nL own ret) {x y : Int64} (d : decode cc pc = .ok (.lsub, 1))  (kk : GW p l e R s m args below meth c Q D cy cs ad nL (pc + 1) lv (.long (x - y) :: rest) S) : GW p l e R s m args below meth c Q D cy cs ad nL pc lv (.long y :: .long x :: rest) S := fun H locs ls hP hS h => lv_lsub B.1 B.2.1 d (kk H locs ls hP hS h)
theorem g_lmul (B : Bd p s m args meth c D cy cs ad cc nL own ret) {x y : Int64} (d : decode cc pc = .ok (.lmul, 1))  (kk : GW p l e R s m args below meth c Q D cy cs ad nL (pc + 1) lv (.long (x * y) :: rest) S) : GW p l e R s m args below meth c Q D cy cs ad nL pc lv (.long y :: .long x :: rest) S := fun H locs ls hP hS h => lv_lmul B.1 B.2.1 d (kk H locs ls hP hS h)
theorem g_land (B : Bd p s m args meth c D cy cs ad cc nL own ret) {x y : Int64} (d : decode cc pc = .ok (.land, 1))  (kk : GW p l e R s m args below meth c Q D cy cs ad nL (pc + 1) lv (.long (x &&& y) :: rest) S) : GW p l e R s m args below meth c Q D cy cs ad nL pc lv (.long y :: .long x :: rest) S := fun H locs ls hP hS h => lv_land B.1 B.2.1 d (kk H locs ls hP hS h)
theorem g_lor (B : Bd p s m args meth c D cy cs ad cc nL own ret) {x y : Int64} (d : decode cc pc = .ok (.lor, 1))  (kk : GW p l e R s m args below meth c Q D cy cs ad nL (pc + 1) lv (.long (x ||| y) :: rest) S) : GW p l e R s m args below meth c Q D cy cs ad nL pc lv (.long y :: .long x :: rest) S := fun H locs ls hP hS h => lv_lor B.1 B.2.1 d (kk H locs ls hP hS h)
theorem g_lxor (B : Bd p s m args meth c D cy cs ad cc nL own ret) {x y : Int64} (d : decode cc pc = .ok (.lxor, 1))  (kk : GW p l e R s m args below meth c Q D cy cs ad nL (pc + 1) lv (.long (x ^^^ y) :: rest) S) : GW p l e R s m args below meth c Q D cy cs ad nL pc lv (.long y :: .long x :: rest) S := fun H locs ls hP hS h => lv_lxor B.1 B.2.1 d (kk H locs ls hP hS h)
theorem g_lcmp (B : Bd p s m args meth c D cy cs ad cc nL own ret) {x y : Int64} (d : decode cc pc = .ok (.lcmp, 1))  (kk : GW p l e R s m args below meth c Q D cy cs ad nL (pc + 1) lv (.int (lg_cmp x y) :: rest) S) : GW p l e R s m args below meth c Q D cy cs ad nL pc lv (.long y :: .long x :: rest) S := fun H locs ls hP hS h => W.lcmp B.1 B.2.1 d (kk H locs ls hP hS h)
theorem g_i2l (B : Bd p s m args meth c D cy cs ad cc nL own ret) {x : Int32} (d : decode cc pc = .ok (.i2l, 1))  (kk : GW p l e R s m args below meth c Q D cy cs ad nL (pc + 1) lv (.long x.toInt64 :: rest) S) : GW p l e R s m args below meth c Q D cy cs ad nL pc lv (.int x :: rest) S := fun H locs ls hP hS h => lv_i2l B.1 B.2.1 d rfl (kk H locs ls hP hS h)
theorem g_l2i (B : Bd p s m args meth c D cy cs ad cc nL own ret) {x : Int64} (d : decode cc pc = .ok (.l2i, 1))  (kk : GW p l e R s m args below meth c Q D cy cs ad nL (pc + 1) lv (.int x.toInt32 :: rest) S) : GW p l e R s m args below meth c Q D cy cs ad nL pc lv (.long x :: rest) S := fun H locs ls hP hS h => lv_l2i B.1 B.2.1 d rfl (kk H locs ls hP hS h)
theorem g_i2b (B : Bd p s m args meth c D cy cs ad cc nL own ret) {x : Int32} (d : decode cc pc = .ok (.i2b, 1))  (kk : GW p l e R s m args below meth c Q D cy cs ad nL (pc + 1) lv (.int x.toInt8.toInt32 :: rest) S) : GW p l e R s m args below meth c Q D cy cs ad nL pc lv (.int x :: rest) S := fun H locs ls hP hS h => lv_i2b B.1 B.2.1 d rfl (kk H locs ls hP hS h)
theorem g_lshl (B : Bd p s m args meth c D cy cs ad cc nL own ret) {x : Int64} {y : Int32} (d : decode cc pc = .ok (.lshl, 1))  (kk : GW p l e R s m args below meth c Q D cy cs ad nL (pc + 1) lv (.long (x <<< (y.toInt64 &&& 63)) :: rest) S) : GW p l e R s m args below meth c Q D cy cs ad nL pc lv (.int y :: .long x :: rest) S := fun H locs ls hP hS h => lv_lshl B.1 B.2.1 d rfl (kk H locs ls hP hS h)
theorem g_lshr (B : Bd p s m args meth c D cy cs ad cc nL own ret) {x : Int64} {y : Int32} (d : decode cc pc = .ok (.lshr, 1))  (kk : GW p l e R s m args below meth c Q D cy cs ad nL (pc + 1) lv (.long (x >>> (y.toInt64 &&& 63)) :: rest) S) : GW p l e R s m args below meth c Q D cy cs ad nL pc lv (.int y :: .long x :: rest) S := fun H locs ls hP hS h => lv_lshr B.1 B.2.1 d rfl (kk H locs ls hP hS h)
theorem g_dup (B : Bd p s m args meth c D cy cs ad cc nL own ret) {v : Value} (d : decode cc pc = .ok (.dup, 1)) (hv : v.category = 1) (kk : GW p l e R s m args below meth c Q D cy cs ad nL (pc + 1) lv (v :: v :: rest) S) : GW p l e R s m args below meth c Q D cy cs ad nL pc lv (v :: rest) S := fun H locs ls hP hS h => lv_dup B.1 B.2.1 d hv (kk H locs ls hP hS h)
theorem g_pop (B : Bd p s m args meth c D cy cs ad cc nL own ret) {v : Value} (d : decode cc pc = .ok (.pop, 1)) (hv : v.category = 1) (kk : GW p l e R s m args below meth c Q D cy cs ad nL (pc + 1) lv (rest) S) : GW p l e R s m args below meth c Q D cy cs ad nL pc lv (v :: rest) S := fun H locs ls hP hS h => lv_pop B.1 B.2.1 d hv (kk H locs ls hP hS h)
theorem g_dup2 (B : Bd p s m args meth c D cy cs ad cc nL own ret) {v w : Value} (d : decode cc pc = .ok (.dup2, 1)) (hv : v.category = 1) (hw : w.category = 1) (kk : GW p l e R s m args below meth c Q D cy cs ad nL (pc + 1) lv (v :: w :: v :: w :: rest) S) : GW p l e R s m args below meth c Q D cy cs ad nL pc lv (v :: w :: rest) S := fun H locs ls hP hS h => lv_dup2_11 B.1 B.2.1 d hv hw (kk H locs ls hP hS h)
theorem g_dup_x1 (B : Bd p s m args meth c D cy cs ad cc nL own ret) {v w : Value} (d : decode cc pc = .ok (.dup_x1, 1)) (hv : v.category = 1) (hw : w.category = 1) (kk : GW p l e R s m args below meth c Q D cy cs ad nL (pc + 1) lv (v :: w :: v :: rest) S) : GW p l e R s m args below meth c Q D cy cs ad nL pc lv (v :: w :: rest) S := fun H locs ls hP hS h => lv_dup_x1 B.1 B.2.1 d hv hw (kk H locs ls hP hS h)
theorem g_if_eq (B : Bd p s m args meth c D cy cs ad cc nL own ret) {x : Int32} {off : Int} (tgt : Nat) (d : decode cc pc = .ok (.ifCond .eq off, 3)) (ht : (pc : Int) + off = (tgt : Int)) (kt : x = 0 → GW p l e R s m args below meth c Q D cy cs ad nL tgt lv rest S) (kf : ¬ (x = 0) → GW p l e R s m args below meth c Q D cy cs ad nL (pc + 3) lv rest S) : GW p l e R s m args below meth c Q D cy cs ad nL pc lv (.int x :: rest) S := fun H locs ls hP hS h => lv_if_eq B.1 B.2.1 d ht (fun q => kt q H locs ls hP hS h) (fun q => kf q H locs ls hP hS h)
theorem g_icmp_eq (B : Bd p s m args meth c D cy cs ad cc nL own ret) {x y : Int32} {off : Int} (tgt : Nat) (d : decode cc pc = .ok (.if_icmp .eq off, 3)) (ht : (pc : Int) + off = (tgt : Int)) (kt : x = y → GW p l e R s m args below meth c Q D cy cs ad nL tgt lv rest S) (kf : ¬ (x = y) → GW p l e R s m args below meth c Q D cy cs ad nL (pc + 3) lv rest S) : GW p l e R s m args below meth c Q D cy cs ad nL pc lv (.int y :: .int x :: rest) S := fun H locs ls hP hS h => lv_icmp_eq B.1 B.2.1 d ht (fun q => kt q H locs ls hP hS h) (fun q => kf q H locs ls hP hS h)
theorem g_if_ne (B : Bd p s m args meth c D cy cs ad cc nL own ret) {x : Int32} {off : Int} (tgt : Nat) (d : decode cc pc = .ok (.ifCond .ne off, 3)) (ht : (pc : Int) + off = (tgt : Int)) (kt : ¬ x = 0 → GW p l e R s m args below meth c Q D cy cs ad nL tgt lv rest S) (kf : x = 0 → GW p l e R s m args below meth c Q D cy cs ad nL (pc + 3) lv rest S) : GW p l e R s m args below meth c Q D cy cs ad nL pc lv (.int x :: rest) S := fun H locs ls hP hS h => lv_if_ne B.1 B.2.1 d ht (fun q => kt q H locs ls hP hS h) (fun q => kf q H locs ls hP hS h)
theorem g_icmp_ne (B : Bd p s m args meth c D cy cs ad cc nL own ret) {x y : Int32} {off : Int} (tgt : Nat) (d : decode cc pc = .ok (.if_icmp .ne off, 3)) (ht : (pc : Int) + off = (tgt : Int)) (kt : ¬ x = y → GW p l e R s m args below meth c Q D cy cs ad nL tgt lv rest S) (kf : x = y → GW p l e R s m args below meth c Q D cy cs ad nL (pc + 3) lv rest S) : GW p l e R s m args below meth c Q D cy cs ad nL pc lv (.int y :: .int x :: rest) S := fun H locs ls hP hS h => lv_icmp_ne B.1 B.2.1 d ht (fun q => kt q H locs ls hP hS h) (fun q => kf q H locs ls hP hS h)
theorem g_if_lt (B : Bd p s m args meth c D cy cs ad cc nL own ret) {x : Int32} {off : Int} (tgt : Nat) (d : decode cc pc = .ok (.ifCond .lt off, 3)) (ht : (pc : Int) + off = (tgt : Int)) (kt : x < 0 → GW p l e R s m args below meth c Q D cy cs ad nL tgt lv rest S) (kf : ¬ (x < 0) → GW p l e R s m args below meth c Q D cy cs ad nL (pc + 3) lv rest S) : GW p l e R s m args below meth c Q D cy cs ad nL pc lv (.int x :: rest) S := fun H locs ls hP hS h => lv_if_lt B.1 B.2.1 d ht (fun q => kt q H locs ls hP hS h) (fun q => kf q H locs ls hP hS h)
theorem g_icmp_lt (B : Bd p s m args meth c D cy cs ad cc nL own ret) {x y : Int32} {off : Int} (tgt : Nat) (d : decode cc pc = .ok (.if_icmp .lt off, 3)) (ht : (pc : Int) + off = (tgt : Int)) (kt : x < y → GW p l e R s m args below meth c Q D cy cs ad nL tgt lv rest S) (kf : ¬ (x < y) → GW p l e R s m args below meth c Q D cy cs ad nL (pc + 3) lv rest S) : GW p l e R s m args below meth c Q D cy cs ad nL pc lv (.int y :: .int x :: rest) S := fun H locs ls hP hS h => lv_icmp_lt B.1 B.2.1 d ht (fun q => kt q H locs ls hP hS h) (fun q => kf q H locs ls hP hS h)
theorem g_if_ge (B : Bd p s m args meth c D cy cs ad cc nL own ret) {x : Int32} {off : Int} (tgt : Nat) (d : decode cc pc = .ok (.ifCond .ge off, 3)) (ht : (pc : Int) + off = (tgt : Int)) (kt : 0 ≤ x → GW p l e R s m args below meth c Q D cy cs ad nL tgt lv rest S) (kf : ¬ (0 ≤ x) → GW p l e R s m args below meth c Q D cy cs ad nL (pc + 3) lv rest S) : GW p l e R s m args below meth c Q D cy cs ad nL pc lv (.int x :: rest) S := fun H locs ls hP hS h => lv_if_ge B.1 B.2.1 d ht (fun q => kt q H locs ls hP hS h) (fun q => kf q H locs ls hP hS h)
theorem g_icmp_ge (B : Bd p s m args meth c D cy cs ad cc nL own ret) {x y : Int32} {off : Int} (tgt : Nat) (d : decode cc pc = .ok (.if_icmp .ge off, 3)) (ht : (pc : Int) + off = (tgt : Int)) (kt : y ≤ x → GW p l e R s m args below meth c Q D cy cs ad nL tgt lv rest S) (kf : ¬ (y ≤ x) → GW p l e R s m args below meth c Q D cy cs ad nL (pc + 3) lv rest S) : GW p l e R s m args below meth c Q D cy cs ad nL pc lv (.int y :: .int x :: rest) S := fun H locs ls hP hS h => lv_icmp_ge B.1 B.2.1 d ht (fun q => kt q H locs ls hP hS h) (fun q => kf q H locs ls hP hS h)
theorem g_if_gt (B : Bd p s m args meth c D cy cs ad cc nL own ret) {x : Int32} {off : Int} (tgt : Nat) (d : decode cc pc = .ok (.ifCond .gt off, 3)) (ht : (pc : Int) + off = (tgt : Int)) (kt : 0 < x → GW p l e R s m args below meth c Q D cy cs ad nL tgt lv rest S) (kf : ¬ (0 < x) → GW p l e R s m args below meth c Q D cy cs ad nL (pc + 3) lv rest S) : GW p l e R s m args below meth c Q D cy cs ad nL pc lv (.int x :: rest) S := fun H locs ls hP hS h => lv_if_gt B.1 B.2.1 d ht (fun q => kt q H locs ls hP hS h) (fun q => kf q H locs ls hP hS h)
theorem g_icmp_gt (B : Bd p s m args meth c D cy cs ad cc nL own ret) {x y : Int32} {off : Int} (tgt : Nat) (d : decode cc pc = .ok (.if_icmp .gt off, 3)) (ht : (pc : Int) + off = (tgt : Int)) (kt : y < x → GW p l e R s m args below meth c Q D cy cs ad nL tgt lv rest S) (kf : ¬ (y < x) → GW p l e R s m args below meth c Q D cy cs ad nL (pc + 3) lv rest S) : GW p l e R s m args below meth c Q D cy cs ad nL pc lv (.int y :: .int x :: rest) S := fun H locs ls hP hS h => lv_icmp_gt B.1 B.2.1 d ht (fun q => kt q H locs ls hP hS h) (fun q => kf q H locs ls hP hS h)
theorem g_if_le (B : Bd p s m args meth c D cy cs ad cc nL own ret) {x : Int32} {off : Int} (tgt : Nat) (d : decode cc pc = .ok (.ifCond .le off, 3)) (ht : (pc : Int) + off = (tgt : Int)) (kt : x ≤ 0 → GW p l e R s m args below meth c Q D cy cs ad nL tgt lv rest S) (kf : ¬ (x ≤ 0) → GW p l e R s m args below meth c Q D cy cs ad nL (pc + 3) lv rest S) : GW p l e R s m args below meth c Q D cy cs ad nL pc lv (.int x :: rest) S := fun H locs ls hP hS h => lv_if_le B.1 B.2.1 d ht (fun q => kt q H locs ls hP hS h) (fun q => kf q H locs ls hP hS h)
theorem g_icmp_le (B : Bd p s m args meth c D cy cs ad cc nL own ret) {x y : Int32} {off : Int} (tgt : Nat) (d : decode cc pc = .ok (.if_icmp .le off, 3)) (ht : (pc : Int) + off = (tgt : Int)) (kt : x ≤ y → GW p l e R s m args below meth c Q D cy cs ad nL tgt lv rest S) (kf : ¬ (x ≤ y) → GW p l e R s m args below meth c Q D cy cs ad nL (pc + 3) lv rest S) : GW p l e R s m args below meth c Q D cy cs ad nL pc lv (.int y :: .int x :: rest) S := fun H locs ls hP hS h => lv_icmp_le B.1 B.2.1 d ht (fun q => kt q H locs ls hP hS h) (fun q => kf q H locs ls hP hS h)
theorem g_goto (B : Bd p s m args meth c D cy cs ad cc nL own ret) {off : Int} (tgt : Nat) (d : decode cc pc = .ok (.goto off, 3)) (ht : (pc : Int) + off = (tgt : Int)) (kk : GW p l e R s m args below meth c Q D cy cs ad nL tgt lv rest S) : GW p l e R s m args below meth c Q D cy cs ad nL pc lv rest S := fun H locs ls hP hS h => lv_goto B.1 B.2.1 d ht (kk H locs ls hP hS h)
theorem g_tableIn (B : Bd p s m args meth c D cy cs ad cc nL own ret) {dflt lo hi : Int} {offs : Array Int} {len : Nat} {x : Int32} {off : Int} (tgt : Nat) (d : decode cc pc = .ok (.tableswitch dflt lo hi offs, len)) (h1 : ¬ x.toInt < lo) (h2 : ¬ hi < x.toInt) (ho : offs[(x.toInt - lo).toNat]? = some off) (ht : (pc : Int) + off = (tgt : Int)) (kk : GW p l e R s m args below meth c Q D cy cs ad nL tgt lv rest S) : GW p l e R s m args below meth c Q D cy cs ad nL pc lv (.int x :: rest) S := fun H locs ls hP hS h => lv_tableIn B.1 B.2.1 d h1 h2 ho ht (kk H locs ls hP hS h)
theorem g_tableOut (B : Bd p s m args meth c D cy cs ad cc nL own ret) {dflt lo hi : Int} {offs : Array Int} {len : Nat} {x : Int32} (tgt : Nat) (d : decode cc pc = .ok (.tableswitch dflt lo hi offs, len)) (h1 : x.toInt < lo ∨ hi < x.toInt) (ht : (pc : Int) + dflt = (tgt : Int)) (kk : GW p l e R s m args below meth c Q D cy cs ad nL tgt lv rest S) : GW p l e R s m args below meth c Q D cy cs ad nL pc lv (.int x :: rest) S := fun H locs ls hP hS h => lv_tableOut B.1 B.2.1 d h1 ht (kk H locs ls hP hS h)
theorem g_lookup (B : Bd p s m args meth c D cy cs ad cc nL own ret) {dflt : Int} {ps : Array (Int × Int)} {len : Nat} {x : Int32} {off : Int} (tgt : Nat) (d : decode cc pc = .ok (.lookupswitch dflt ps, len)) (hp : (ps.toList.zip (ps.toList.drop 1)).all (fun (a, next) => a.1 < next.1) = true) (ho : Op.lookupswitch.offset ps.toList dflt x.toInt = off) (ht : (pc : Int) + off = (tgt : Int)) (kk : GW p l e R s m args below meth c Q D cy cs ad nL tgt lv rest S) : GW p l e R s m args below meth c Q D cy cs ad nL pc lv (.int x :: rest) S := fun H locs ls hP hS h => lv_lookup B.1 B.2.1 d hp ho ht (kk H locs ls hP hS h)
theorem g_iald (B : Bd p s m args meth c D cy cs ad cc nL own ret) {k0 k1 n : Nat} {i : Int32} (hm : mc cs k0 k1 = true) (hsh : ∀ f, sh cy ad k0 k1 f (S.2 k0 k1) = .inl (cy 0, n, .inl f)) (hin : inb i n = true) (d : decode cc pc = .ok (.iaload, 1)) (kk : GW p l e R s m args below meth c Q D cy cs ad nL (pc + 1) lv (.int (gi S k0 k1 i.toNatClampNeg) :: rest) S) : GW p l e R s m args below meth c Q D cy cs ad nL pc lv (.int i :: .ref (ad k0 k1) :: rest) S := by
  intro H locs ls hP hS h
  obtain ⟨i, hi⟩ := wd_at hm
  exact va_iald B.1 B.2.1 B.2.2.2.2.2.1 hP i 0 (f := S.1 k0 k1) (by rw [wd_i hi]; exact congrArg (fun z => some (ad k0 k1, z)) (hsh (S.1 k0 k1))) rfl (inb_in hin) d (kk H locs ls hP hS h)
theorem g_bald (B : Bd p s m args meth c D cy cs ad cc nL own ret) {k0 k1 n : Nat} {i : Int32} (hm : mc cs k0 k1 = true) (hsh : ∀ f, sh cy ad k0 k1 f (S.2 k0 k1) = .inl (cy 1, n, .inl f)) (hin : inb i n = true) (d : decode cc pc = .ok (.baload, 1)) (kk : GW p l e R s m args below meth c Q D cy cs ad nL (pc + 1) lv (.int (gi S k0 k1 i.toNatClampNeg) :: rest) S) : GW p l e R s m args below meth c Q D cy cs ad nL pc lv (.int i :: .ref (ad k0 k1) :: rest) S := by
  intro H locs ls hP hS h
  obtain ⟨i, hi⟩ := wd_at hm
  exact va_bald B.1 B.2.1 B.2.2.2.2.2.1 hP i 1 (f := S.1 k0 k1) (by rw [wd_i hi]; exact congrArg (fun z => some (ad k0 k1, z)) (hsh (S.1 k0 k1))) rfl (inb_in hin) d (kk H locs ls hP hS h)
theorem g_zald (B : Bd p s m args meth c D cy cs ad cc nL own ret) {k0 k1 n : Nat} {i : Int32} (hm : mc cs k0 k1 = true) (hsh : ∀ f, sh cy ad k0 k1 f (S.2 k0 k1) = .inl (cy 3, n, .inl f)) (hin : inb i n = true) (d : decode cc pc = .ok (.baload, 1)) (kk : GW p l e R s m args below meth c Q D cy cs ad nL (pc + 1) lv (.int (gi S k0 k1 i.toNatClampNeg) :: rest) S) : GW p l e R s m args below meth c Q D cy cs ad nL pc lv (.int i :: .ref (ad k0 k1) :: rest) S := by
  intro H locs ls hP hS h
  obtain ⟨i, hi⟩ := wd_at hm
  exact va_zald B.1 B.2.1 B.2.2.2.2.2.1 hP i 3 (f := S.1 k0 k1) (by rw [wd_i hi]; exact congrArg (fun z => some (ad k0 k1, z)) (hsh (S.1 k0 k1))) rfl (inb_in hin) d (kk H locs ls hP hS h)
theorem g_lald (B : Bd p s m args meth c D cy cs ad cc nL own ret) {k0 k1 n : Nat} {i : Int32} (hm : mc cs k0 k1 = true) (hsh : ∀ f, sh cy ad k0 k1 (S.1 k0 k1) f = .inl (cy 2, n, .inr (.inl f))) (hin : inb i n = true) (d : decode cc pc = .ok (.laload, 1)) (kk : GW p l e R s m args below meth c Q D cy cs ad nL (pc + 1) lv (.long (gl S k0 k1 i.toNatClampNeg) :: rest) S) : GW p l e R s m args below meth c Q D cy cs ad nL pc lv (.int i :: .ref (ad k0 k1) :: rest) S := by
  intro H locs ls hP hS h
  obtain ⟨i, hi⟩ := wd_at hm
  exact va_lald B.1 B.2.1 B.2.2.2.2.2.1 hP i 2 (f := S.2 k0 k1) (by rw [wd_i hi]; exact congrArg (fun z => some (ad k0 k1, z)) (hsh (S.2 k0 k1))) rfl (inb_in hin) d (kk H locs ls hP hS h)
theorem g_aald (B : Bd p s m args meth c D cy cs ad cc nL own ret) {k0 k1 n : Nat} {f : Nat → Option Nat} {i : Int32} {t0 : Nat} {ty : FieldType} {a : Nat} (hty : (tyl cy)[t0]? = some (cy t0, ty)) (hre : ty.isReference = true) (hm : mc cs k0 k1 = true) (hsh : sh cy ad k0 k1 (S.1 k0 k1) (S.2 k0 k1) = .inl (cy t0, n, .inr (.inr (.inr (.inr f))))) (hin : inb i n = true) (hf : f i.toNatClampNeg = some a) (d : decode cc pc = .ok (.aaload, 1)) (kk : GW p l e R s m args below meth c Q D cy cs ad nL (pc + 1) lv (.ref a :: rest) S) : GW p l e R s m args below meth c Q D cy cs ad nL pc lv (.int i :: .ref (ad k0 k1) :: rest) S := by
  intro H locs ls hP hS h
  obtain ⟨i1, hi⟩ := wd_at hm
  have hn := inb_in hin
  have hlt : i.toNatClampNeg < n := Nat.not_le.mp fun q => hn (Or.inr q)
  have hK := B.2.2.2.2.2.1
  have hc : H[ad k0 k1]? = some (vp_cell (cy t0) (n, .inr (.inr (.inr (.inr f))))) := by
    have h9 := hP i1 _ (wd_i hi)
    simp only [hsh] at h9
    exact h9
  exact W.aald (v := .ref a) (ty := ty) B.1 B.2.1 hc ((hK.2 t0 _ hty).1 n (fun j => va_rf (f j))) hre (fun q => by cases q) (by show ¬ (i < 0 ∨ (arrV _ _ _).slots.size ≤ _); rw [arrV_size]; exact hn) (by show (arrV _ _ _).slots[_]? = _; rw [arrV_read _ _ hlt]; show some (va_rf (f i.toNatClampNeg)) = _; rw [hf]; rfl) rfl rfl d (kk H locs ls hP hS h)
theorem g_iast (B : Bd p s m args meth c D cy cs ad cc nL own ret) {k0 k1 n : Nat} {i x : Int32} {S' : HS} (hm : mc cs k0 k1 = true) (hin : inb i n = true) (hsh' : ∀ f, sh cy ad k0 k1 f (S.2 k0 k1) = .inl (cy 0, n, .inl f)) (hS' : S' = ui S k0 k1 i.toNatClampNeg x) (d : decode cc pc = .ok (.iastore, 1)) (kk : GW p l e R s m args below meth c Q D cy cs ad nL (pc + 1) lv rest S') : GW p l e R s m args below meth c Q D cy cs ad nL pc lv (.int x :: .int i :: .ref (ad k0 k1) :: rest) S := by
  intro H locs ls hP hS h
  obtain ⟨i1, hi⟩ := wd_at hm
  refine va_iast B.1 B.2.1 B.2.2.2.2.2.1 hP (wd_D B.2.2.2.2.2.2.1) hS i1 0 (f := S.1 k0 k1) (by rw [wd_i hi]; exact congrArg (fun z => some (ad k0 k1, z)) (hsh' (S.1 k0 k1))) rfl (inb_in hin) d (fun H1 locs1 hP1 _ hS1 => ?_)
  rw [wd_set (s' := S') B.2.2.2.2.2.2.1 hi (by rw [hS', ui_at]; exact hsh' _) (fun c' k' q => by rw [hS']; exact ⟨ui_ne _ _ _ _ _ q, rfl⟩)] at hP1
  exact kk H1 locs1 ls hP1 hS1 h
theorem g_bast (B : Bd p s m args meth c D cy cs ad cc nL own ret) {k0 k1 n : Nat} {i x : Int32} {S' : HS} (hm : mc cs k0 k1 = true) (hin : inb i n = true) (hsh' : ∀ f, sh cy ad k0 k1 f (S.2 k0 k1) = .inl (cy 1, n, .inl f)) (hS' : S' = ui S k0 k1 i.toNatClampNeg (vp_nar .byte x)) (d : decode cc pc = .ok (.bastore, 1)) (kk : GW p l e R s m args below meth c Q D cy cs ad nL (pc + 1) lv rest S') : GW p l e R s m args below meth c Q D cy cs ad nL pc lv (.int x :: .int i :: .ref (ad k0 k1) :: rest) S := by
  intro H locs ls hP hS h
  obtain ⟨i1, hi⟩ := wd_at hm
  refine va_bast B.1 B.2.1 B.2.2.2.2.2.1 hP (wd_D B.2.2.2.2.2.2.1) hS i1 1 (f := S.1 k0 k1) (by rw [wd_i hi]; exact congrArg (fun z => some (ad k0 k1, z)) (hsh' (S.1 k0 k1))) rfl (inb_in hin) d (fun H1 locs1 hP1 _ hS1 => ?_)
  rw [wd_set (s' := S') B.2.2.2.2.2.2.1 hi (by rw [hS', ui_at]; exact hsh' _) (fun c' k' q => by rw [hS']; exact ⟨ui_ne _ _ _ _ _ q, rfl⟩)] at hP1
  exact kk H1 locs1 ls hP1 hS1 h
theorem g_zast (B : Bd p s m args meth c D cy cs ad cc nL own ret) {k0 k1 n : Nat} {i x : Int32} {S' : HS} (hm : mc cs k0 k1 = true) (hin : inb i n = true) (hsh' : ∀ f, sh cy ad k0 k1 f (S.2 k0 k1) = .inl (cy 3, n, .inl f)) (hS' : S' = ui S k0 k1 i.toNatClampNeg (vp_nar .boolean x)) (d : decode cc pc = .ok (.bastore, 1)) (kk : GW p l e R s m args below meth c Q D cy cs ad nL (pc + 1) lv rest S') : GW p l e R s m args below meth c Q D cy cs ad nL pc lv (.int x :: .int i :: .ref (ad k0 k1) :: rest) S := by
  intro H locs ls hP hS h
  obtain ⟨i1, hi⟩ := wd_at hm
  refine va_zast B.1 B.2.1 B.2.2.2.2.2.1 hP (wd_D B.2.2.2.2.2.2.1) hS i1 3 (f := S.1 k0 k1) (by rw [wd_i hi]; exact congrArg (fun z => some (ad k0 k1, z)) (hsh' (S.1 k0 k1))) rfl (inb_in hin) d (fun H1 locs1 hP1 _ hS1 => ?_)
  rw [wd_set (s' := S') B.2.2.2.2.2.2.1 hi (by rw [hS', ui_at]; exact hsh' _) (fun c' k' q => by rw [hS']; exact ⟨ui_ne _ _ _ _ _ q, rfl⟩)] at hP1
  exact kk H1 locs1 ls hP1 hS1 h
theorem g_last (B : Bd p s m args meth c D cy cs ad cc nL own ret) {k0 k1 n : Nat} {i : Int32} {x : Int64} {S' : HS} (hm : mc cs k0 k1 = true) (hin : inb i n = true) (hsh' : ∀ f, sh cy ad k0 k1 (S.1 k0 k1) f = .inl (cy 2, n, .inr (.inl f))) (hS' : S' = ul S k0 k1 i.toNatClampNeg x) (d : decode cc pc = .ok (.lastore, 1)) (kk : GW p l e R s m args below meth c Q D cy cs ad nL (pc + 1) lv rest S') : GW p l e R s m args below meth c Q D cy cs ad nL pc lv (.long x :: .int i :: .ref (ad k0 k1) :: rest) S := by
  intro H locs ls hP hS h
  obtain ⟨i1, hi⟩ := wd_at hm
  refine va_last B.1 B.2.1 B.2.2.2.2.2.1 hP (wd_D B.2.2.2.2.2.2.1) hS i1 2 (f := S.2 k0 k1) (by rw [wd_i hi]; exact congrArg (fun z => some (ad k0 k1, z)) (hsh' (S.2 k0 k1))) rfl (inb_in hin) d (fun H1 locs1 hP1 _ hS1 => ?_)
  rw [wd_set (s' := S') B.2.2.2.2.2.2.1 hi (by rw [hS', ul_at]; exact hsh' _) (fun c' k' q => by rw [hS']; exact ⟨rfl, ul_ne _ _ _ _ _ q⟩)] at hP1
  exact kk H1 locs1 ls hP1 hS1 h
theorem g_topi {x y : Int32} (e1 : y = x) (kk : GW p l e R s m args below meth c Q D cy cs ad nL pc lv (.int y :: rest) S) : GW p l e R s m args below meth c Q D cy cs ad nL pc lv (.int x :: rest) S := e1 ▸ kk
theorem g_topl {x y : Int64} (e1 : y = x) (kk : GW p l e R s m args below meth c Q D cy cs ad nL pc lv (.long y :: rest) S) : GW p l e R s m args below meth c Q D cy cs ad nL pc lv (.long x :: rest) S := e1 ▸ kk
theorem g_iret (B : Bd p s m args meth c D cy cs ad cc nL own (some .int)) {v : Int32} (d : decode cc pc = .ok (.ireturn, 1)) : GW p l e R s m args below meth c (QM below args s D cy cs ad (some (.int v)) S) D cy cs ad nL pc lv [.int v] S := fun H locs ls hP hS h => W.iret B.1 B.2.1 B.2.2.2.2.2.2.2.1 (fun t ht hW => ⟨rfl, by rw [ht]; exact hP, hS.F ht⟩) hS.2.2 d B.2.2.2.2.2.2.2.2.1
theorem g_zret (B : Bd p s m args meth c D cy cs ad cc nL own (some .boolean)) {v : Int32} (hn : b01 v = true) (d : decode cc pc = .ok (.ireturn, 1)) : GW p l e R s m args below meth c (QM below args s D cy cs ad (some (.int v)) S) D cy cs ad nL pc lv [.int v] S := fun H locs ls hP hS h => W.zret B.1 B.2.1 B.2.2.2.2.2.2.2.1 (b01_n hn) (fun t ht hW => ⟨rfl, by rw [ht]; exact hP, hS.F ht⟩) hS.2.2 d B.2.2.2.2.2.2.2.2.1
theorem g_lret (B : Bd p s m args meth c D cy cs ad cc nL own (some .long)) {v : Int64} (d : decode cc pc = .ok (.lreturn, 1)) : GW p l e R s m args below meth c (QM below args s D cy cs ad (some (.long v)) S) D cy cs ad nL pc lv [.long v] S := fun H locs ls hP hS h => W.lret B.1 B.2.1 B.2.2.2.2.2.2.2.1 (fun t ht hW => ⟨rfl, by rw [ht]; exact hP, hS.F ht⟩) hS.2.2 d B.2.2.2.2.2.2.2.2.1
theorem g_vret (B : Bd p s m args meth c D cy cs ad cc nL own (none)) (d : decode cc pc = .ok (.return_, 1)) : GW p l e R s m args below meth c (QM below args s D cy cs ad none S) D cy cs ad nL pc lv [] S := fun H locs ls hP hS h => W.vret B.1 B.2.1 B.2.2.2.2.2.2.2.1 (fun t ht hW => ⟨rfl, by rw [ht]; exact hP, hS.F ht⟩) hS.2.2 d B.2.2.2.2.2.2.2.2.1
theorem g_aret {t : FieldType} (B : Bd p s m args meth c D cy cs ad cc nL own (some (.array t))) {v : Nat} (d : decode cc pc = .ok (.areturn, 1)) : GW p l e R s m args below meth c (QM below args s D cy cs ad (some (.ref v)) S) D cy cs ad nL pc lv [.ref v] S := fun H locs ls hP hS h => W.aret B.1 B.2.1 B.2.2.2.2.2.2.2.1 (Or.inr ⟨t, rfl⟩) (Or.inr ⟨v, rfl⟩) (fun t ht hW => ⟨rfl, by rw [ht]; exact hP, hS.F ht⟩) hS.2.2 d B.2.2.2.2.2.2.2.2.1
theorem gw_V {idx nL' : Nat} {own C : String} {y : MethodName} {cc' : ByteArray} {ret' : Option FieldType} (h1 : Cond.methodLink own idx y ∈ gw) (h2 : Cond.instanceMethod y ∈ gw) (h3 : Cond.selects C y y ∈ gw) (h4 : Cond.initialized C ∈ gw) (h5 : Cond.code y cc' nL' ret' ∈ gw) : GoodIn gw (wsV own idx C y (Cond.code y cc' nL' ret' :: gw)) := by
  intro w hw
  refine gw_one ?_
  simp only [wsV, List.cons_append, List.nil_append, List.mem_cons] at hw
  rcases hw with rfl | rfl | rfl | rfl | rfl | hw
  · exact h1
  · exact h2
  · exact h3
  · exact h4
  · exact h5
  · exact hw
theorem gw_S {nL' : Nat} {y : MethodName} {cc' : ByteArray} {ret' : Option FieldType} (h5 : Cond.code y cc' nL' ret' ∈ gw) : GoodIn gw (Cond.code y cc' nL' ret' :: gw) := by
  intro w hw
  refine gw_one ?_
  rcases List.mem_cons.mp hw with rfl | hw
  · exact h5
  · exact hw
/-- what a call looks up of an instance method -/
def MFV (y : MethodName) (cc' : ByteArray) (nL' : Nat) (ret' : Option FieldType) (C : String) (n : Nat) : Prop := Cond.instanceMethod y ∈ gw ∧ Cond.selects C y y ∈ gw ∧ Cond.initialized C ∈ gw ∧ Cond.code y cc' nL' ret' ∈ gw ∧ (y.cls = C ∧ y.cls ≠ "java/lang/invoke/MethodHandle" ∧ y.cls ≠ "java/lang/invoke/VarHandle" ∧ (parseMethodDescriptor y.desc).map (fun d => d.parameters.length) = some n)
def MFS (y : MethodName) (cc' : ByteArray) (nL' : Nat) (ret' : Option FieldType) (n : Nat) : Prop := Cond.static y ∈ gw ∧ Cond.initialized y.cls ∈ gw ∧ Cond.code y cc' nL' ret' ∈ gw ∧ (y.cls ≠ "java/lang/invoke/MethodHandle" ∧ y.cls ≠ "java/lang/invoke/VarHandle" ∧ (parseMethodDescriptor y.desc).map (fun d => d.parameters.length) = some n)
theorem Ctr.blind {D : va_G} {cy : Nat → ClassId} {cs : List (Nat × Nat)} {ad : Nat → Nat → Nat} {av : List Value} {S0 : HS} : FrameBlind (va_Pc av (fun U => va_P D vwCl (Wd cs cy ad S0) U.heap ∧ va_K D vwCl (tyl cy) U ∧ gZ cs ad U)) := fun a U g mk q => ⟨q.1, q.2.1, va_K.moved (u := U) (U := U.calling g mk a) (Vm.Alike.refl U.vm) q.2.2.1, gZ_calling q.2.2.2⟩
theorem g_run {H : Heap} {locs : List Loc} {ls : Array Slot} {st0 : List Value} {o : Option Value} {S1 : HS} {a : Array Value} (run : va_Run p l e R s m args below meth c H locs 0 0 0 0 (F0 m pc ls st0) rest (QR D cy cs ad o S1 a) (gA cs ad)) (hS : va_S (gA cs ad) s.heap H locs)
    (kk : ∀ (H1 : Heap) (locs1 : List Loc), va_P D vwCl (Wd cs cy ad S1) H1 → va_S (gA cs ad) s.heap H1 locs1 → W p l e R s m args below meth c H1 locs1 0 0 Q (F0 m (pc + 3) ls (o.toList ++ rest))) : W p l e R s m args below meth c H locs 0 0 Q (F0 m pc ls st0) := by
  intro T hT X
  obtain ⟨v, st₀, t, T', L, h0, X', hL, e1, e2, ⟨hv, hp, hz, hk⟩, st⟩ := run T hT X
  cases hv
  rw [h0] at hz hk
  obtain ⟨t2, a1, b1⟩ := kk T'.heap (locs ++ L) (by rw [e1]; exact hp)
    ⟨Nat.le_trans hS.1 (by rw [e1]; exact hz), fun q h1 h2 => by rw [e1, hk q (Nat.lt_of_lt_of_le h1 hS.1) h2]; exact hS.2.1 q h1 h2, fun q hq => by
      rcases List.mem_append.mp hq with h | h
      · exact hS.2.2 q h
      · exact hL q h⟩ T' rfl X'
  exact ⟨t2, st t2 a1, b1⟩
theorem g_cv (B : Bd p s m args meth c D cy cs ad cc nL own ret) {y : MethodName} {cc' : ByteArray} {nL' n idx k0 k1 ci N : Nat} {ret' : Option FieldType} {rm' : Room} {As st : List Value} {S1 : HS} {o : Option Value} {C : String} {T : u_T} {fs : List Value} (hM : Ctr l y cc' nL' ret' rm' D cy cs ad (.ref (ad k0 k1) :: As) S o S1) (mf : MFV y cc' nL' ret' C n) (hl : Cond.methodLink own idx y ∈ gw) (hR : rm'.frames + 1 ≤ R.frames ∧ 8 + (nL' + 11) + rm'.locals ≤ R.locals) (hz : rm'.cells = 0 ∧ rm'.slots = 0) (hm : mc cs k0 k1 = true) (hsh : sh cy ad k0 k1 (S.1 k0 k1) (S.2 k0 k1) = .inr (ci, fs)) (hc : vwCl[ci]? = some (C, T, N)) (hst : st = As.reverse ++ .ref (ad k0 k1) :: rest) (hn : As.length = n) (hW : (rest.map fun v => v.category).sum ≤ 8) (d : decode cc pc = .ok (.invokevirtual idx, 3)) (kk : GW p l e R s m args below meth c Q D cy cs ad nL (pc + 3) lv (o.toList ++ rest) S1) : GW p l e R s m args below meth c Q D cy cs ad nL pc lv st S := by
  intro H locs ls hP hS h
  obtain ⟨hx, hb, hml, hown, hts, hK, hA, -, -, hZ⟩ := B
  obtain ⟨i, hi⟩ := wd_at hm
  obtain ⟨f1, f2, f3, f4, f5⟩ := mf
  have he : (Wd cs cy ad S)[i]? = some (ad k0 k1, .inr (ci, fs)) := by rw [wd_i hi]; exact congrArg (fun z => some (ad k0 k1, z)) hsh
  refine g_run (va_runV (C := C) (n := n) (As := As) (rest := rest) ⟨hx, hb, hml, hown, hts⟩ hM (cwV n hts (gw_V hl f1 f2 f3 f4) rfl hz.1 hz.2 f5 hR) ⟨Ctr.blind, va_recv hK hP (ci := ci) (q0 := i) hc he, fun U hU hW => ⟨rfl, by rw [hU]; exact hP, va_K.moved hW.alike hK, gZ_moved hW (fun q h1 h2 => by rw [hU]; exact hS.2.1 q h1 h2) hZ⟩⟩ rfl hn h.1 hst (lv_room hW) d ⟨Nat.zero_le _, Nat.zero_le _⟩) hS (fun H1 locs1 hP1 hS1 => kk H1 locs1 ls hP1 hS1 h)
theorem g_cs (B : Bd p s m args meth c D cy cs ad cc nL own ret) {y : MethodName} {cc' : ByteArray} {nL' n idx : Nat} {ret' : Option FieldType} {rm' : Room} {As st : List Value} {S1 : HS} {o : Option Value} (hM : Ctr l y cc' nL' ret' rm' D cy cs ad As S o S1) (mf : MFS y cc' nL' ret' n) (hl : Cond.methodLink own idx y ∈ gw) (hR : rm'.frames + 1 ≤ R.frames ∧ 8 + (nL' + 11) + rm'.locals ≤ R.locals) (hz : rm'.cells = 0 ∧ rm'.slots = 0) (hst : st = As.reverse ++ rest) (hn : As.length = n) (hW : (rest.map fun v => v.category).sum ≤ 8) (d : decode cc pc = .ok (.invokestatic idx, 3)) (kk : GW p l e R s m args below meth c Q D cy cs ad nL (pc + 3) lv (o.toList ++ rest) S1) : GW p l e R s m args below meth c Q D cy cs ad nL pc lv st S := by
  intro H locs ls hP hS h
  obtain ⟨hx, hb, hml, hown, hts, hK, hA, -, -, hZ⟩ := B
  obtain ⟨f1, f2, f3, f4⟩ := mf
  refine g_run (va_runS (n := n) (As := As) (rest := rest) ⟨hx, hb, hml, hown, hts⟩ hM ⟨callB_of n hts (gw_S f3) rfl hz.1 hz.2 (hts _ f2) (hts _ hl) f4 hR, hts _ f1⟩ ⟨Ctr.blind, fun U hU hW => ⟨rfl, by rw [hU]; exact hP, va_K.moved hW.alike hK, gZ_moved hW (fun q h1 h2 => by rw [hU]; exact hS.2.1 q h1 h2) hZ⟩⟩ rfl hn h.1 hst (lv_room hW) d ⟨Nat.zero_le _, Nat.zero_le _⟩) hS (fun H1 locs1 hP1 hS1 => kk H1 locs1 ls hP1 hS1 h)
theorem g_cvi (B : Bd p s m args meth c D cy cs ad cc nL own ret) {y : MethodName} {cc' : ByteArray} {nL' n idx k0 k1 ci N : Nat} {ret' : Option FieldType} {rm' : Room} {As st : List Value} {S1 : HS} {C : String} {T : u_T} {fs : List Value} {r : Int32} (hM : Ctr l y cc' nL' ret' rm' D cy cs ad (.ref (ad k0 k1) :: As) S (some (.int r)) S1) (mf : MFV y cc' nL' ret' C n) (hl : Cond.methodLink own idx y ∈ gw) (hR : rm'.frames + 1 ≤ R.frames ∧ 8 + (nL' + 11) + rm'.locals ≤ R.locals) (hz : rm'.cells = 0 ∧ rm'.slots = 0) (hm : mc cs k0 k1 = true) (hsh : sh cy ad k0 k1 (S.1 k0 k1) (S.2 k0 k1) = .inr (ci, fs)) (hc : vwCl[ci]? = some (C, T, N)) (hst : st = As.reverse ++ .ref (ad k0 k1) :: rest) (hn : As.length = n) (hW : (rest.map fun v => v.category).sum ≤ 8) (d : decode cc pc = .ok (.invokevirtual idx, 3)) (kk : GW p l e R s m args below meth c Q D cy cs ad nL (pc + 3) lv (.int r :: rest) S1) : GW p l e R s m args below meth c Q D cy cs ad nL pc lv st S := g_cv B hM mf hl hR hz hm hsh hc hst hn hW d kk
theorem g_csi (B : Bd p s m args meth c D cy cs ad cc nL own ret) {y : MethodName} {cc' : ByteArray} {nL' n idx : Nat} {ret' : Option FieldType} {rm' : Room} {As st : List Value} {S1 : HS} {r : Int32} (hM : Ctr l y cc' nL' ret' rm' D cy cs ad As S (some (.int r)) S1) (mf : MFS y cc' nL' ret' n) (hl : Cond.methodLink own idx y ∈ gw) (hR : rm'.frames + 1 ≤ R.frames ∧ 8 + (nL' + 11) + rm'.locals ≤ R.locals) (hz : rm'.cells = 0 ∧ rm'.slots = 0) (hst : st = As.reverse ++ rest) (hn : As.length = n) (hW : (rest.map fun v => v.category).sum ≤ 8) (d : decode cc pc = .ok (.invokestatic idx, 3)) (kk : GW p l e R s m args below meth c Q D cy cs ad nL (pc + 3) lv (.int r :: rest) S1) : GW p l e R s m args below meth c Q D cy cs ad nL pc lv st S := g_cs B hM mf hl hR hz hst hn hW d kk
theorem g_cvl (B : Bd p s m args meth c D cy cs ad cc nL own ret) {y : MethodName} {cc' : ByteArray} {nL' n idx k0 k1 ci N : Nat} {ret' : Option FieldType} {rm' : Room} {As st : List Value} {S1 : HS} {C : String} {T : u_T} {fs : List Value} {r : Int64} (hM : Ctr l y cc' nL' ret' rm' D cy cs ad (.ref (ad k0 k1) :: As) S (some (.long r)) S1) (mf : MFV y cc' nL' ret' C n) (hl : Cond.methodLink own idx y ∈ gw) (hR : rm'.frames + 1 ≤ R.frames ∧ 8 + (nL' + 11) + rm'.locals ≤ R.locals) (hz : rm'.cells = 0 ∧ rm'.slots = 0) (hm : mc cs k0 k1 = true) (hsh : sh cy ad k0 k1 (S.1 k0 k1) (S.2 k0 k1) = .inr (ci, fs)) (hc : vwCl[ci]? = some (C, T, N)) (hst : st = As.reverse ++ .ref (ad k0 k1) :: rest) (hn : As.length = n) (hW : (rest.map fun v => v.category).sum ≤ 8) (d : decode cc pc = .ok (.invokevirtual idx, 3)) (kk : GW p l e R s m args below meth c Q D cy cs ad nL (pc + 3) lv (.long r :: rest) S1) : GW p l e R s m args below meth c Q D cy cs ad nL pc lv st S := g_cv B hM mf hl hR hz hm hsh hc hst hn hW d kk
theorem g_csl (B : Bd p s m args meth c D cy cs ad cc nL own ret) {y : MethodName} {cc' : ByteArray} {nL' n idx : Nat} {ret' : Option FieldType} {rm' : Room} {As st : List Value} {S1 : HS} {r : Int64} (hM : Ctr l y cc' nL' ret' rm' D cy cs ad As S (some (.long r)) S1) (mf : MFS y cc' nL' ret' n) (hl : Cond.methodLink own idx y ∈ gw) (hR : rm'.frames + 1 ≤ R.frames ∧ 8 + (nL' + 11) + rm'.locals ≤ R.locals) (hz : rm'.cells = 0 ∧ rm'.slots = 0) (hst : st = As.reverse ++ rest) (hn : As.length = n) (hW : (rest.map fun v => v.category).sum ≤ 8) (d : decode cc pc = .ok (.invokestatic idx, 3)) (kk : GW p l e R s m args below meth c Q D cy cs ad nL (pc + 3) lv (.long r :: rest) S1) : GW p l e R s m args below meth c Q D cy cs ad nL pc lv st S := g_cs B hM mf hl hR hz hst hn hW d kk
theorem g_cvv (B : Bd p s m args meth c D cy cs ad cc nL own ret) {y : MethodName} {cc' : ByteArray} {nL' n idx k0 k1 ci N : Nat} {ret' : Option FieldType} {rm' : Room} {As st : List Value} {S1 : HS} {C : String} {T : u_T} {fs : List Value}  (hM : Ctr l y cc' nL' ret' rm' D cy cs ad (.ref (ad k0 k1) :: As) S none S1) (mf : MFV y cc' nL' ret' C n) (hl : Cond.methodLink own idx y ∈ gw) (hR : rm'.frames + 1 ≤ R.frames ∧ 8 + (nL' + 11) + rm'.locals ≤ R.locals) (hz : rm'.cells = 0 ∧ rm'.slots = 0) (hm : mc cs k0 k1 = true) (hsh : sh cy ad k0 k1 (S.1 k0 k1) (S.2 k0 k1) = .inr (ci, fs)) (hc : vwCl[ci]? = some (C, T, N)) (hst : st = As.reverse ++ .ref (ad k0 k1) :: rest) (hn : As.length = n) (hW : (rest.map fun v => v.category).sum ≤ 8) (d : decode cc pc = .ok (.invokevirtual idx, 3)) (kk : GW p l e R s m args below meth c Q D cy cs ad nL (pc + 3) lv (rest) S1) : GW p l e R s m args below meth c Q D cy cs ad nL pc lv st S := g_cv B hM mf hl hR hz hm hsh hc hst hn hW d kk
theorem g_csv (B : Bd p s m args meth c D cy cs ad cc nL own ret) {y : MethodName} {cc' : ByteArray} {nL' n idx : Nat} {ret' : Option FieldType} {rm' : Room} {As st : List Value} {S1 : HS}  (hM : Ctr l y cc' nL' ret' rm' D cy cs ad As S none S1) (mf : MFS y cc' nL' ret' n) (hl : Cond.methodLink own idx y ∈ gw) (hR : rm'.frames + 1 ≤ R.frames ∧ 8 + (nL' + 11) + rm'.locals ≤ R.locals) (hz : rm'.cells = 0 ∧ rm'.slots = 0) (hst : st = As.reverse ++ rest) (hn : As.length = n) (hW : (rest.map fun v => v.category).sum ≤ 8) (d : decode cc pc = .ok (.invokestatic idx, 3)) (kk : GW p l e R s m args below meth c Q D cy cs ad nL (pc + 3) lv (rest) S1) : GW p l e R s m args below meth c Q D cy cs ad nL pc lv st S := g_cs B hM mf hl hR hz hst hn hW d kk
theorem g_cvr (B : Bd p s m args meth c D cy cs ad cc nL own ret) {y : MethodName} {cc' : ByteArray} {nL' n idx k0 k1 ci N : Nat} {ret' : Option FieldType} {rm' : Room} {As st : List Value} {S1 : HS} {C : String} {T : u_T} {fs : List Value} {r : Nat} (hM : Ctr l y cc' nL' ret' rm' D cy cs ad (.ref (ad k0 k1) :: As) S (some (.ref r)) S1) (mf : MFV y cc' nL' ret' C n) (hl : Cond.methodLink own idx y ∈ gw) (hR : rm'.frames + 1 ≤ R.frames ∧ 8 + (nL' + 11) + rm'.locals ≤ R.locals) (hz : rm'.cells = 0 ∧ rm'.slots = 0) (hm : mc cs k0 k1 = true) (hsh : sh cy ad k0 k1 (S.1 k0 k1) (S.2 k0 k1) = .inr (ci, fs)) (hc : vwCl[ci]? = some (C, T, N)) (hst : st = As.reverse ++ .ref (ad k0 k1) :: rest) (hn : As.length = n) (hW : (rest.map fun v => v.category).sum ≤ 8) (d : decode cc pc = .ok (.invokevirtual idx, 3)) (kk : GW p l e R s m args below meth c Q D cy cs ad nL (pc + 3) lv (.ref r :: rest) S1) : GW p l e R s m args below meth c Q D cy cs ad nL pc lv st S := g_cv B hM mf hl hR hz hm hsh hc hst hn hW d kk
theorem g_csr (B : Bd p s m args meth c D cy cs ad cc nL own ret) {y : MethodName} {cc' : ByteArray} {nL' n idx : Nat} {ret' : Option FieldType} {rm' : Room} {As st : List Value} {S1 : HS} {r : Nat} (hM : Ctr l y cc' nL' ret' rm' D cy cs ad As S (some (.ref r)) S1) (mf : MFS y cc' nL' ret' n) (hl : Cond.methodLink own idx y ∈ gw) (hR : rm'.frames + 1 ≤ R.frames ∧ 8 + (nL' + 11) + rm'.locals ≤ R.locals) (hz : rm'.cells = 0 ∧ rm'.slots = 0) (hst : st = As.reverse ++ rest) (hn : As.length = n) (hW : (rest.map fun v => v.category).sum ≤ 8) (d : decode cc pc = .ok (.invokestatic idx, 3)) (kk : GW p l e R s m args below meth c Q D cy cs ad nL (pc + 3) lv (.ref r :: rest) S1) : GW p l e R s m args below meth c Q D cy cs ad nL pc lv st S := g_cs B hM mf hl hR hz hst hn hW d kk
theorem g_sld (B : Bd p s m args meth c D cy cs ad cc nL own ret) {k : Nat} {i : Int32} (hk : k < 5) (hin : inb i (sLn k) = true) (d : decode cc pc = .ok (.iaload, 1)) (kk : GW p l e R s m args below meth c Q D cy cs ad nL (pc + 1) lv (.int (sVl k i.toNatClampNeg) :: rest) S) : GW p l e R s m args below meth c Q D cy cs ad nL pc lv (.int i :: .ref (ad 40 k) :: rest) S := fun H locs ls hP hS h => va_ti B.1 B.2.1 (B.2.2.2.2.2.2.2.2.2.1 k hk).2 hS (inb_in hin) rfl d (kk H locs ls hP hS h)
theorem g_slen (B : Bd p s m args meth c D cy cs ad cc nL own ret) {k : Nat} (hk : k < 5) (d : decode cc pc = .ok (.arraylength, 1)) (kk : GW p l e R s m args below meth c Q D cy cs ad nL (pc + 1) lv (.int (nI (sLn k)) :: rest) S) : GW p l e R s m args below meth c Q D cy cs ad nL pc lv (.ref (ad 40 k) :: rest) S := fun H locs ls hP hS h => va_tlen B.1 B.2.1 (B.2.2.2.2.2.2.2.2.2.1 k hk).2 hS rfl d (kk H locs ls hP hS h)
theorem g_gets (B : Bd p s m args meth c D cy cs ad cc nL own ret) {k index : Nat} {n : String} (hk : k < 5) (hn : sNm k = n) (hw : Cond.fieldLinkNest own index RX8 n "[I" RX8 ∈ nwl) (d : decode cc pc = .ok (.getstatic index, 3)) (kk : GW p l e R s m args below meth c Q D cy cs ad nL (pc + 3) lv (.ref (ad 40 k) :: rest) S) : GW p l e R s m args below meth c Q D cy cs ad nL pc lv rest S := fun H locs ls hP hS h => va_getsN (C := RX8) B.1 B.2.1 (B.2.2.2.2.2.2.2.2.2.1 k hk).1 hS B.2.2.2.1 (by rw [hn]; exact va_Nw.use rfl (B.2.2.2.2.2.2.2.2.2.2.1 _ hw)) (fun _ h9 => h9) d (kk H locs ls hP hS h)
theorem g_lds (own1 : String) (B : Bd p s m args meth c D cy cs ad cc nL RX7 ret) {i index : Nat} (hi : i < 8) (hx : ixK.getD i 0 = index) (d : decode cc pc = .ok (.ldc index, 2)) (kk : GW p l e R s m args below meth c Q D cy cs ad nL (pc + 2) lv (.ref (ad 41 i) :: rest) S) : GW p l e R s m args below meth c Q D cy cs ad nL pc lv rest S := fun H locs ls hP hS h => va_ldcS B.1 B.2.1 B.2.2.2.1 (B.2.2.2.2.2.2.2.2.2.2.2.2.1 i hi) (by rw [hx]; exact d) (kk H locs ls hP hS h)
theorem g_kval (B : Bd p s m args meth c D cy cs ad cc nL own ret) {i index : Nat} (hi : i < 8) (hl : Cond.fieldLink own index "java/lang/String" "value" "[B" ∈ gw) (d : decode cc pc = .ok (.getfield index, 3)) (kk : GW p l e R s m args below meth c Q D cy cs ad nL (pc + 3) lv (.ref (ad 42 i) :: rest) S) : GW p l e R s m args below meth c Q D cy cs ad nL pc lv (.ref (ad 41 i) :: rest) S := fun H locs ls hP hS h => vk_getf B.1 B.2.1 (B.2.2.2.2.2.2.2.2.2.2.2.1.1 i hi).2.2.1 hS B.2.2.2.1 (B.2.2.2.2.1 _ hl) (fun _ h9 => h9) d (kk H locs ls hP hS h)
theorem g_kcod (B : Bd p s m args meth c D cy cs ad cc nL own ret) {i index : Nat} (hi : i < 8) (hl : Cond.fieldLink own index "java/lang/String" "coder" "B" ∈ gw) (d : decode cc pc = .ok (.getfield index, 3)) (kk : GW p l e R s m args below meth c Q D cy cs ad nL (pc + 3) lv (.int 0 :: rest) S) : GW p l e R s m args below meth c Q D cy cs ad nL pc lv (.ref (ad 41 i) :: rest) S := fun H locs ls hP hS h => vk_getf B.1 B.2.1 (B.2.2.2.2.2.2.2.2.2.2.2.1.1 i hi).2.1 hS B.2.2.2.1 (B.2.2.2.2.1 _ hl) (fun _ h9 => h9) d (kk H locs ls hP hS h)
theorem g_klen (B : Bd p s m args meth c D cy cs ad cc nL own ret) {i : Nat} (hi : i < 8) (d : decode cc pc = .ok (.arraylength, 1)) (kk : GW p l e R s m args below meth c Q D cy cs ad nL (pc + 1) lv (.int (nI (lenK.getD i 0)) :: rest) S) : GW p l e R s m args below meth c Q D cy cs ad nL pc lv (.ref (ad 42 i) :: rest) S := fun H locs ls hP hS h => va_tlen B.1 B.2.1 (B.2.2.2.2.2.2.2.2.2.2.2.1.1 i hi).2.2.2 hS rfl d (kk H locs ls hP hS h)
theorem g_kld (B : Bd p s m args meth c D cy cs ad cc nL own ret) {i : Nat} {j : Int32} (hi : i < 8) (hin : inb j (lenK.getD i 0) = true) (d : decode cc pc = .ok (.baload, 1)) (kk : GW p l e R s m args below meth c Q D cy cs ad nL (pc + 1) lv (.int ((bytK.getD i []).getD j.toNatClampNeg 0) :: rest) S) : GW p l e R s m args below meth c Q D cy cs ad nL pc lv (.int j :: .ref (ad 42 i) :: rest) S := fun H locs ls hP hS h => va_tb B.1 B.2.1 (B.2.2.2.2.2.2.2.2.2.2.2.1.1 i hi).2.2.2 hS (inb_in hin) rfl d (kk H locs ls hP hS h)
theorem g_gcs (B : Bd p s m args meth c D cy cs ad cc nL own ret) {index : Nat} (hl : Cond.fieldLink own index "java/lang/String" "COMPACT_STRINGS" "Z" ∈ gw) (d : decode cc pc = .ok (.getstatic index, 3)) (kk : GW p l e R s m args below meth c Q D cy cs ad nL (pc + 3) lv (.int 1 :: rest) S) : GW p l e R s m args below meth c Q D cy cs ad nL pc lv rest S := fun H locs ls hP hS h => va_gets B.1 B.2.1 B.2.2.2.2.2.2.2.2.2.2.2.2.2.1 hS B.2.2.2.1 (B.2.2.2.2.1 _ hl) (fun _ h9 => h9) d (kk H locs ls hP hS h)
theorem g_gfm (B : Bd p s m args meth c D cy cs ad cc nL own ret) {index : Nat} (hl : Cond.fieldLink own index "jdk/internal/util/Preconditions" "SIOOBE_FORMATTER" "Ljava/util/function/BiFunction;" ∈ gw) (d : decode cc pc = .ok (.getstatic index, 3)) (kk : GW p l e R s m args below meth c Q D cy cs ad nL (pc + 3) lv (fmtv ad :: rest) S) : GW p l e R s m args below meth c Q D cy cs ad nL pc lv rest S := fun H locs ls hP hS h => va_gets B.1 B.2.1 B.2.2.2.2.2.2.2.2.2.2.2.2.2.2 hS B.2.2.2.1 (B.2.2.2.2.1 _ hl) (fun _ h9 => h9) d (kk H locs ls hP hS h)
theorem g_i2c (B : Bd p s m args meth c D cy cs ad cc nL own ret) {x : Int32} (d : decode cc pc = .ok (.i2c, 1)) (kk : GW p l e R s m args below meth c Q D cy cs ad nL (pc + 1) lv (.int (x.toUInt32 % 65536).toInt32 :: rest) S) : GW p l e R s m args below meth c Q D cy cs ad nL pc lv (.int x :: rest) S := fun H locs ls hP hS h => lv_i2c B.1 B.2.1 d rfl (kk H locs ls hP hS h)
def c16 (v : Int32) : Bool := decide ((v.toUInt32 % 65536).toInt32 = v)
theorem c16_n {v : Int32} (h : c16 v = true) : narrow .char (.int v) = .int v := by
  have h1 : (v.toUInt32 % 65536).toInt32 = v := of_decide_eq_true h
  rw [← h1]
  exact pk_nc v
theorem g_nret {ty : FieldType} (B : Bd p s m args meth c D cy cs ad cc nL own (some ty)) {v : Int32} (hn : narrow ty (.int v) = .int v) (d : decode cc pc = .ok (.ireturn, 1)) : GW p l e R s m args below meth c (QM below args s D cy cs ad (some (.int v)) S) D cy cs ad nL pc lv [.int v] S := fun H locs ls hP hS h => W.zret B.1 B.2.1 B.2.2.2.2.2.2.2.1 hn (fun t ht hW => ⟨rfl, by rw [ht]; exact hP, hS.F ht⟩) hS.2.2 d B.2.2.2.2.2.2.2.2.1
theorem g_cvk (B : Bd p s m args meth c D cy cs ad cc nL own ret) {y : MethodName} {cc' : ByteArray} {nL' n idx i : Nat} {ret' : Option FieldType} {rm' : Room} {As st : List Value} {S1 : HS} {r : Int32} (hM : Ctr l y cc' nL' ret' rm' D cy cs ad (.ref (ad 41 i) :: As) S (some (.int r)) S1) (mf : MFV y cc' nL' ret' RJ0 n) (hl : Cond.methodLink own idx y ∈ gw) (hR : rm'.frames + 1 ≤ R.frames ∧ 8 + (nL' + 11) + rm'.locals ≤ R.locals) (hz : rm'.cells = 0 ∧ rm'.slots = 0) (hi : i < 8) (hst : st = As.reverse ++ .ref (ad 41 i) :: rest) (hn : As.length = n) (hW : (rest.map fun v => v.category).sum ≤ 8) (d : decode cc pc = .ok (.invokevirtual idx, 3)) (kk : GW p l e R s m args below meth c Q D cy cs ad nL (pc + 3) lv (.int r :: rest) S1) : GW p l e R s m args below meth c Q D cy cs ad nL pc lv st S := by
  intro H locs ls hP hS h
  obtain ⟨hx, hb, hml, hown, hts, hK, hA, -, -, hZ⟩ := B
  obtain ⟨f1, f2, f3, f4, f5⟩ := mf
  refine g_run (va_runV (C := RJ0) (n := n) (As := As) (rest := rest) ⟨hx, hb, hml, hown, hts⟩ hM (cwV n hts (gw_V hl f1 f2 f3 f4) rfl hz.1 hz.2 f5 hR) ⟨Ctr.blind, vk_recv hZ.2.2.1 hi hS, fun U hU hW => ⟨rfl, by rw [hU]; exact hP, va_K.moved hW.alike hK, gZ_moved hW (fun q h1 h2 => by rw [hU]; exact hS.2.1 q h1 h2) hZ⟩⟩ rfl hn h.1 hst (lv_room hW) d ⟨Nat.zero_le _, Nat.zero_le _⟩) hS (fun H1 locs1 hP1 hS1 => kk H1 locs1 ls hP1 hS1 h)
theorem g_csni (B : Bd p s m args meth c D cy cs ad cc nL own ret) {y : MethodName} {cc' : ByteArray} {nL' n idx : Nat} {ret' : Option FieldType} {rm' : Room} {As st : List Value} {S1 : HS} {r : Int32} (hM : Ctr l y cc' nL' ret' rm' D cy cs ad As S (some (.int r)) S1) (mf : MFS y cc' nL' ret' n) (hl : Cond.methodLinkNest own idx y RX8 ∈ nwl) (hR : rm'.frames + 1 ≤ R.frames ∧ 8 + (nL' + 11) + rm'.locals ≤ R.locals) (hz : rm'.cells = 0 ∧ rm'.slots = 0) (hst : st = As.reverse ++ rest) (hn : As.length = n) (hW : (rest.map fun v => v.category).sum ≤ 8) (d : decode cc pc = .ok (.invokestatic idx, 3)) (kk : GW p l e R s m args below meth c Q D cy cs ad nL (pc + 3) lv (.int r :: rest) S1) : GW p l e R s m args below meth c Q D cy cs ad nL pc lv st S := by
  intro H locs ls hP hS h
  obtain ⟨hx, hb, hml, hown, hts, hK, hA, -, -, hZ⟩ := B
  obtain ⟨f1, f2, f3, f4⟩ := mf
  refine g_run (va_runSN (n := n) (As := As) (rest := rest) ⟨hx, hb, hml, hown, hts⟩ hM ⟨va_cnB n hts (gw_S f3) rfl hz.1 hz.2 (hZ.2.1 _ hl) (hts _ f2) f4 hR, hts _ f1, trivial⟩ ⟨Ctr.blind, fun U hU hW => ⟨rfl, by rw [hU]; exact hP, va_K.moved hW.alike hK, gZ_moved hW (fun q h1 h2 => by rw [hU]; exact hS.2.1 q h1 h2) hZ⟩⟩ rfl hn h.1 hst (lv_room hW) d ⟨Nat.zero_le _, Nat.zero_le _⟩) hS (fun H1 locs1 hP1 hS1 => kk H1 locs1 ls hP1 hS1 h)
theorem ti_ne {x : Int32} (v : Int32) (n : Int) (hv : v.toInt = n) (h : ¬ x = v) : x.toInt ≠ n := fun q => h (Int32.toInt_inj.mp (q.trans hv.symm))
end GI
end
