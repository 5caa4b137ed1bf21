-- ===== PART A: goes FIRST, ahead of the names: the tables' words, and 'selects' of the private methods out of them =====
/-- a private method of a class that the tables say can be made, by its rows of tables_1 -/
def lw_okq (q : MethodName × Nat) : Prop := (q.1.cls ≠ "java/lang/invoke/MethodHandle" ∧ q.1.cls ≠ "java/lang/invoke/VarHandle") ∧ Cond.instantiable q.1.cls q.2 ∈ tables_1 ∧ Cond.privateMethod q.1 ∈ tables_1 ∧ Cond.instanceMethod q.1 ∈ tables_1
theorem lw_p0 : lw_okq (⟨"GlassValley", "isWeekToCome", "(I)Z"⟩, 11) := ⟨⟨by decide +kernel, by decide +kernel⟩, List.mem_of_getElem? (i := 17) (by decide +kernel), List.mem_of_getElem? (i := 328) (by decide +kernel), List.mem_of_getElem? (i := 329) (by decide +kernel)⟩
theorem lw_p1 : lw_okq (⟨"GlassValley", "isOrder", "(I)Z"⟩, 11) := ⟨⟨by decide +kernel, by decide +kernel⟩, List.mem_of_getElem? (i := 17) (by decide +kernel), List.mem_of_getElem? (i := 367) (by decide +kernel), List.mem_of_getElem? (i := 368) (by decide +kernel)⟩
theorem lw_p2 : lw_okq (⟨"GlassValley$Tape", "skipBlanks", "()V"⟩, 6) := ⟨⟨by decide +kernel, by decide +kernel⟩, List.mem_of_getElem? (i := 37) (by decide +kernel), List.mem_of_getElem? (i := 400) (by decide +kernel), List.mem_of_getElem? (i := 401) (by decide +kernel)⟩
theorem lw_p3 : lw_okq (⟨"GlassValley$Tape", "skipLetters", "()V"⟩, 6) := ⟨⟨by decide +kernel, by decide +kernel⟩, List.mem_of_getElem? (i := 37) (by decide +kernel), List.mem_of_getElem? (i := 407) (by decide +kernel), List.mem_of_getElem? (i := 408) (by decide +kernel)⟩
theorem lw_p4 : lw_okq (⟨"GlassValley$Tape", "keyword", "()I"⟩, 6) := ⟨⟨by decide +kernel, by decide +kernel⟩, List.mem_of_getElem? (i := 37) (by decide +kernel), List.mem_of_getElem? (i := 411) (by decide +kernel), List.mem_of_getElem? (i := 412) (by decide +kernel)⟩
theorem lw_p5 : lw_okq (⟨"GlassValley$Tape", "isWord", "(Ljava/lang/String;)Z"⟩, 6) := ⟨⟨by decide +kernel, by decide +kernel⟩, List.mem_of_getElem? (i := 37) (by decide +kernel), List.mem_of_getElem? (i := 416) (by decide +kernel), List.mem_of_getElem? (i := 417) (by decide +kernel)⟩
theorem lw_p6 : lw_okq (⟨"GlassValley$Tape", "readNumber", "()V"⟩, 6) := ⟨⟨by decide +kernel, by decide +kernel⟩, List.mem_of_getElem? (i := 37) (by decide +kernel), List.mem_of_getElem? (i := 478) (by decide +kernel), List.mem_of_getElem? (i := 479) (by decide +kernel)⟩
theorem lw_p7 : lw_okq (⟨"GlassValley$CustomReader", "readLine", "(LGlassValley$Rights;)Z"⟩, 5) := ⟨⟨by decide +kernel, by decide +kernel⟩, List.mem_of_getElem? (i := 31) (by decide +kernel), List.mem_of_getElem? (i := 482) (by decide +kernel), List.mem_of_getElem? (i := 483) (by decide +kernel)⟩
theorem lw_p8 : lw_okq (⟨"GlassValley$CustomReader", "stopAt", "(I)Z"⟩, 5) := ⟨⟨by decide +kernel, by decide +kernel⟩, List.mem_of_getElem? (i := 31) (by decide +kernel), List.mem_of_getElem? (i := 486) (by decide +kernel), List.mem_of_getElem? (i := 487) (by decide +kernel)⟩
theorem lw_p9 : lw_okq (⟨"GlassValley$CustomReader", "readParts", "([I)Z"⟩, 5) := ⟨⟨by decide +kernel, by decide +kernel⟩, List.mem_of_getElem? (i := 31) (by decide +kernel), List.mem_of_getElem? (i := 502) (by decide +kernel), List.mem_of_getElem? (i := 503) (by decide +kernel)⟩
theorem lw_p10 : lw_okq (⟨"GlassValley$CustomReader", "leastOf", "(I)I"⟩, 5) := ⟨⟨by decide +kernel, by decide +kernel⟩, List.mem_of_getElem? (i := 31) (by decide +kernel), List.mem_of_getElem? (i := 506) (by decide +kernel), List.mem_of_getElem? (i := 507) (by decide +kernel)⟩
theorem lw_p11 : lw_okq (⟨"GlassValley$CustomReader", "tell", "(ILGlassValley$Rights;)V"⟩, 5) := ⟨⟨by decide +kernel, by decide +kernel⟩, List.mem_of_getElem? (i := 31) (by decide +kernel), List.mem_of_getElem? (i := 514) (by decide +kernel), List.mem_of_getElem? (i := 515) (by decide +kernel)⟩
theorem lw_p12 : lw_okq (⟨"GlassValley", "countOrders", "(I)I"⟩, 11) := ⟨⟨by decide +kernel, by decide +kernel⟩, List.mem_of_getElem? (i := 17) (by decide +kernel), List.mem_of_getElem? (i := 546) (by decide +kernel), List.mem_of_getElem? (i := 547) (by decide +kernel)⟩
theorem lw_p13 : lw_okq (⟨"GlassValley", "bringPlanUpToDate", "()V"⟩, 11) := ⟨⟨by decide +kernel, by decide +kernel⟩, List.mem_of_getElem? (i := 17) (by decide +kernel), List.mem_of_getElem? (i := 558) (by decide +kernel), List.mem_of_getElem? (i := 559) (by decide +kernel)⟩
theorem lw_p14 : lw_okq (⟨"GlassValley$Plan", "lineUp", "([LGlassValley$ShipOrder;I)V"⟩, 15) := ⟨⟨by decide +kernel, by decide +kernel⟩, List.mem_of_getElem? (i := 88) (by decide +kernel), List.mem_of_getElem? (i := 566) (by decide +kernel), List.mem_of_getElem? (i := 567) (by decide +kernel)⟩
theorem lw_p15 : lw_okq (⟨"GlassValley$Plan", "startAt", "(LGlassValley$Family;I)V"⟩, 15) := ⟨⟨by decide +kernel, by decide +kernel⟩, List.mem_of_getElem? (i := 88) (by decide +kernel), List.mem_of_getElem? (i := 570) (by decide +kernel), List.mem_of_getElem? (i := 571) (by decide +kernel)⟩
def lw_privs_1 : List (MethodName × Nat) := [(⟨"GlassValley", "isWeekToCome", "(I)Z"⟩, 11), (⟨"GlassValley", "isOrder", "(I)Z"⟩, 11), (⟨"GlassValley$Tape", "skipBlanks", "()V"⟩, 6), (⟨"GlassValley$Tape", "skipLetters", "()V"⟩, 6), (⟨"GlassValley$Tape", "keyword", "()I"⟩, 6), (⟨"GlassValley$Tape", "isWord", "(Ljava/lang/String;)Z"⟩, 6), (⟨"GlassValley$Tape", "readNumber", "()V"⟩, 6), (⟨"GlassValley$CustomReader", "readLine", "(LGlassValley$Rights;)Z"⟩, 5), (⟨"GlassValley$CustomReader", "stopAt", "(I)Z"⟩, 5), (⟨"GlassValley$CustomReader", "readParts", "([I)Z"⟩, 5), (⟨"GlassValley$CustomReader", "leastOf", "(I)I"⟩, 5), (⟨"GlassValley$CustomReader", "tell", "(ILGlassValley$Rights;)V"⟩, 5), (⟨"GlassValley", "countOrders", "(I)I"⟩, 11), (⟨"GlassValley", "bringPlanUpToDate", "()V"⟩, 11), (⟨"GlassValley$Plan", "lineUp", "([LGlassValley$ShipOrder;I)V"⟩, 15), (⟨"GlassValley$Plan", "startAt", "(LGlassValley$Family;I)V"⟩, 15)]
theorem lw_r1 : ∀ q ∈ lw_privs_1, lw_okq q := List.forall_mem_cons.mpr ⟨lw_p0, List.forall_mem_cons.mpr ⟨lw_p1, List.forall_mem_cons.mpr ⟨lw_p2, List.forall_mem_cons.mpr ⟨lw_p3, List.forall_mem_cons.mpr ⟨lw_p4, List.forall_mem_cons.mpr ⟨lw_p5, List.forall_mem_cons.mpr ⟨lw_p6, List.forall_mem_cons.mpr ⟨lw_p7, List.forall_mem_cons.mpr ⟨lw_p8, List.forall_mem_cons.mpr ⟨lw_p9, List.forall_mem_cons.mpr ⟨lw_p10, List.forall_mem_cons.mpr ⟨lw_p11, List.forall_mem_cons.mpr ⟨lw_p12, List.forall_mem_cons.mpr ⟨lw_p13, List.forall_mem_cons.mpr ⟨lw_p14, List.forall_mem_cons.mpr ⟨lw_p15, fun _ h => absurd h List.not_mem_nil⟩⟩⟩⟩⟩⟩⟩⟩⟩⟩⟩⟩⟩⟩⟩⟩
theorem lw_p16 : lw_okq (⟨"GlassValley$Plan", "addToSets", "(ILGlassValley$ShipOrder;LGlassValley$Family;LGlassValley$Rights;)V"⟩, 15) := ⟨⟨by decide +kernel, by decide +kernel⟩, List.mem_of_getElem? (i := 88) (by decide +kernel), List.mem_of_getElem? (i := 574) (by decide +kernel), List.mem_of_getElem? (i := 575) (by decide +kernel)⟩
theorem lw_p17 : lw_okq (⟨"GlassValley$Plan", "shareAlsoWith", "(I)V"⟩, 15) := ⟨⟨by decide +kernel, by decide +kernel⟩, List.mem_of_getElem? (i := 88) (by decide +kernel), List.mem_of_getElem? (i := 595) (by decide +kernel), List.mem_of_getElem? (i := 596) (by decide +kernel)⟩
theorem lw_p18 : lw_okq (⟨"GlassValley$Plan", "tellWay", "([LGlassValley$Family;[LGlassValley$ShipOrder;LGlassValley$Rights;I)V"⟩, 15) := ⟨⟨by decide +kernel, by decide +kernel⟩, List.mem_of_getElem? (i := 88) (by decide +kernel), List.mem_of_getElem? (i := 599) (by decide +kernel), List.mem_of_getElem? (i := 600) (by decide +kernel)⟩
theorem lw_p19 : lw_okq (⟨"GlassValley$Plan", "tellOrder", "(LGlassValley$ShipOrder;LGlassValley$Family;LGlassValley$Rights;I)V"⟩, 15) := ⟨⟨by decide +kernel, by decide +kernel⟩, List.mem_of_getElem? (i := 88) (by decide +kernel), List.mem_of_getElem? (i := 603) (by decide +kernel), List.mem_of_getElem? (i := 604) (by decide +kernel)⟩
theorem lw_p20 : lw_okq (⟨"GlassValley", "workAsPlanned", "(LGlassValley$ShipOrder;)V"⟩, 11) := ⟨⟨by decide +kernel, by decide +kernel⟩, List.mem_of_getElem? (i := 17) (by decide +kernel), List.mem_of_getElem? (i := 614) (by decide +kernel), List.mem_of_getElem? (i := 615) (by decide +kernel)⟩
theorem lw_p21 : lw_okq (⟨"GlassValleyModel", "isOpen", "(I)Z"⟩, 44) := ⟨⟨by decide +kernel, by decide +kernel⟩, List.mem_of_getElem? (i := 622) (by decide +kernel), List.mem_of_getElem? (i := 781) (by decide +kernel), List.mem_of_getElem? (i := 782) (by decide +kernel)⟩
theorem lw_p22 : lw_okq (⟨"GlassValleyModel", "counts", "(I)V"⟩, 44) := ⟨⟨by decide +kernel, by decide +kernel⟩, List.mem_of_getElem? (i := 622) (by decide +kernel), List.mem_of_getElem? (i := 785) (by decide +kernel), List.mem_of_getElem? (i := 786) (by decide +kernel)⟩
theorem lw_p23 : lw_okq (⟨"GlassValleyModel", "next0", "()V"⟩, 44) := ⟨⟨by decide +kernel, by decide +kernel⟩, List.mem_of_getElem? (i := 622) (by decide +kernel), List.mem_of_getElem? (i := 818) (by decide +kernel), List.mem_of_getElem? (i := 819) (by decide +kernel)⟩
theorem lw_p24 : lw_okq (⟨"GlassValleyModel", "see", "(I)I"⟩, 44) := ⟨⟨by decide +kernel, by decide +kernel⟩, List.mem_of_getElem? (i := 622) (by decide +kernel), List.mem_of_getElem? (i := 822) (by decide +kernel), List.mem_of_getElem? (i := 823) (by decide +kernel)⟩
theorem lw_p25 : lw_okq (⟨"GlassValleyModel", "aLine", "()Z"⟩, 44) := ⟨⟨by decide +kernel, by decide +kernel⟩, List.mem_of_getElem? (i := 622) (by decide +kernel), List.mem_of_getElem? (i := 843) (by decide +kernel), List.mem_of_getElem? (i := 844) (by decide +kernel)⟩
theorem lw_p26 : lw_okq (⟨"GlassValleyModel", "bad", "(I)Z"⟩, 44) := ⟨⟨by decide +kernel, by decide +kernel⟩, List.mem_of_getElem? (i := 622) (by decide +kernel), List.mem_of_getElem? (i := 847) (by decide +kernel), List.mem_of_getElem? (i := 848) (by decide +kernel)⟩
theorem lw_p27 : lw_okq (⟨"GlassValleyModel", "aNumber", "(II)Z"⟩, 44) := ⟨⟨by decide +kernel, by decide +kernel⟩, List.mem_of_getElem? (i := 622) (by decide +kernel), List.mem_of_getElem? (i := 851) (by decide +kernel), List.mem_of_getElem? (i := 852) (by decide +kernel)⟩
theorem lw_p28 : lw_okq (⟨"GlassValleyModel", "need", "(I)Z"⟩, 44) := ⟨⟨by decide +kernel, by decide +kernel⟩, List.mem_of_getElem? (i := 622) (by decide +kernel), List.mem_of_getElem? (i := 855) (by decide +kernel), List.mem_of_getElem? (i := 856) (by decide +kernel)⟩
theorem lw_p29 : lw_okq (⟨"GlassValleyModel", "tells", "(I)V"⟩, 44) := ⟨⟨by decide +kernel, by decide +kernel⟩, List.mem_of_getElem? (i := 622) (by decide +kernel), List.mem_of_getElem? (i := 859) (by decide +kernel), List.mem_of_getElem? (i := 860) (by decide +kernel)⟩
theorem lw_p30 : lw_okq (⟨"GlassValleyModel", "isAllowed", "(III)Z"⟩, 44) := ⟨⟨by decide +kernel, by decide +kernel⟩, List.mem_of_getElem? (i := 622) (by decide +kernel), List.mem_of_getElem? (i := 871) (by decide +kernel), List.mem_of_getElem? (i := 872) (by decide +kernel)⟩
theorem lw_p31 : lw_okq (⟨"GlassValleyModel", "finds", "()V"⟩, 44) := ⟨⟨by decide +kernel, by decide +kernel⟩, List.mem_of_getElem? (i := 622) (by decide +kernel), List.mem_of_getElem? (i := 887) (by decide +kernel), List.mem_of_getElem? (i := 888) (by decide +kernel)⟩
def lw_privs_2 : List (MethodName × Nat) := [(⟨"GlassValley$Plan", "addToSets", "(ILGlassValley$ShipOrder;LGlassValley$Family;LGlassValley$Rights;)V"⟩, 15), (⟨"GlassValley$Plan", "shareAlsoWith", "(I)V"⟩, 15), (⟨"GlassValley$Plan", "tellWay", "([LGlassValley$Family;[LGlassValley$ShipOrder;LGlassValley$Rights;I)V"⟩, 15), (⟨"GlassValley$Plan", "tellOrder", "(LGlassValley$ShipOrder;LGlassValley$Family;LGlassValley$Rights;I)V"⟩, 15), (⟨"GlassValley", "workAsPlanned", "(LGlassValley$ShipOrder;)V"⟩, 11), (⟨"GlassValleyModel", "isOpen", "(I)Z"⟩, 44), (⟨"GlassValleyModel", "counts", "(I)V"⟩, 44), (⟨"GlassValleyModel", "next0", "()V"⟩, 44), (⟨"GlassValleyModel", "see", "(I)I"⟩, 44), (⟨"GlassValleyModel", "aLine", "()Z"⟩, 44), (⟨"GlassValleyModel", "bad", "(I)Z"⟩, 44), (⟨"GlassValleyModel", "aNumber", "(II)Z"⟩, 44), (⟨"GlassValleyModel", "need", "(I)Z"⟩, 44), (⟨"GlassValleyModel", "tells", "(I)V"⟩, 44), (⟨"GlassValleyModel", "isAllowed", "(III)Z"⟩, 44), (⟨"GlassValleyModel", "finds", "()V"⟩, 44)]
theorem lw_r2 : ∀ q ∈ lw_privs_2, lw_okq q := List.forall_mem_cons.mpr ⟨lw_p16, List.forall_mem_cons.mpr ⟨lw_p17, List.forall_mem_cons.mpr ⟨lw_p18, List.forall_mem_cons.mpr ⟨lw_p19, List.forall_mem_cons.mpr ⟨lw_p20, List.forall_mem_cons.mpr ⟨lw_p21, List.forall_mem_cons.mpr ⟨lw_p22, List.forall_mem_cons.mpr ⟨lw_p23, List.forall_mem_cons.mpr ⟨lw_p24, List.forall_mem_cons.mpr ⟨lw_p25, List.forall_mem_cons.mpr ⟨lw_p26, List.forall_mem_cons.mpr ⟨lw_p27, List.forall_mem_cons.mpr ⟨lw_p28, List.forall_mem_cons.mpr ⟨lw_p29, List.forall_mem_cons.mpr ⟨lw_p30, List.forall_mem_cons.mpr ⟨lw_p31, fun _ h => absurd h List.not_mem_nil⟩⟩⟩⟩⟩⟩⟩⟩⟩⟩⟩⟩⟩⟩⟩⟩
theorem lw_p32 : lw_okq (⟨"GlassValleyModel", "does", "(II)Z"⟩, 44) := ⟨⟨by decide +kernel, by decide +kernel⟩, List.mem_of_getElem? (i := 622) (by decide +kernel), List.mem_of_getElem? (i := 891) (by decide +kernel), List.mem_of_getElem? (i := 892) (by decide +kernel)⟩
theorem lw_p33 : lw_okq (⟨"GlassValleyModel", "sorts", "(I)V"⟩, 44) := ⟨⟨by decide +kernel, by decide +kernel⟩, List.mem_of_getElem? (i := 622) (by decide +kernel), List.mem_of_getElem? (i := 895) (by decide +kernel), List.mem_of_getElem? (i := 896) (by decide +kernel)⟩
theorem lw_p34 : lw_okq (⟨"GlassValleyModel", "left", "(II)I"⟩, 44) := ⟨⟨by decide +kernel, by decide +kernel⟩, List.mem_of_getElem? (i := 622) (by decide +kernel), List.mem_of_getElem? (i := 899) (by decide +kernel), List.mem_of_getElem? (i := 900) (by decide +kernel)⟩
theorem lw_p35 : lw_okq (⟨"GlassValleyModel", "tries", "(III)V"⟩, 44) := ⟨⟨by decide +kernel, by decide +kernel⟩, List.mem_of_getElem? (i := 622) (by decide +kernel), List.mem_of_getElem? (i := 903) (by decide +kernel), List.mem_of_getElem? (i := 904) (by decide +kernel)⟩
theorem lw_p36 : lw_okq (⟨"GlassValleyModel", "canAll", "()Z"⟩, 44) := ⟨⟨by decide +kernel, by decide +kernel⟩, List.mem_of_getElem? (i := 622) (by decide +kernel), List.mem_of_getElem? (i := 907) (by decide +kernel), List.mem_of_getElem? (i := 908) (by decide +kernel)⟩
theorem lw_p37 : lw_okq (⟨"GlassValleyModel", "setOf", "(I)I"⟩, 44) := ⟨⟨by decide +kernel, by decide +kernel⟩, List.mem_of_getElem? (i := 622) (by decide +kernel), List.mem_of_getElem? (i := 911) (by decide +kernel), List.mem_of_getElem? (i := 912) (by decide +kernel)⟩
theorem lw_p38 : lw_okq (⟨"GlassValleyModel", "works", "(I)V"⟩, 44) := ⟨⟨by decide +kernel, by decide +kernel⟩, List.mem_of_getElem? (i := 622) (by decide +kernel), List.mem_of_getElem? (i := 919) (by decide +kernel), List.mem_of_getElem? (i := 920) (by decide +kernel)⟩
def lw_privs_3 : List (MethodName × Nat) := [(⟨"GlassValleyModel", "does", "(II)Z"⟩, 44), (⟨"GlassValleyModel", "sorts", "(I)V"⟩, 44), (⟨"GlassValleyModel", "left", "(II)I"⟩, 44), (⟨"GlassValleyModel", "tries", "(III)V"⟩, 44), (⟨"GlassValleyModel", "canAll", "()Z"⟩, 44), (⟨"GlassValleyModel", "setOf", "(I)I"⟩, 44), (⟨"GlassValleyModel", "works", "(I)V"⟩, 44)]
theorem lw_r3 : ∀ q ∈ lw_privs_3, lw_okq q := List.forall_mem_cons.mpr ⟨lw_p32, List.forall_mem_cons.mpr ⟨lw_p33, List.forall_mem_cons.mpr ⟨lw_p34, List.forall_mem_cons.mpr ⟨lw_p35, List.forall_mem_cons.mpr ⟨lw_p36, List.forall_mem_cons.mpr ⟨lw_p37, List.forall_mem_cons.mpr ⟨lw_p38, fun _ h => absurd h List.not_mem_nil⟩⟩⟩⟩⟩⟩⟩
def lw_privs : List (MethodName × Nat) := lw_privs_1 ++ (lw_privs_2 ++ (lw_privs_3))
def lw_tbl : List Cond := k2_sels lw_privs ++ tables_1
theorem lw_privs_ok : ∀ q ∈ lw_privs, lw_okq q := by
  show ∀ q ∈ lw_privs_1 ++ (lw_privs_2 ++ (lw_privs_3)), lw_okq q
  exact List.forall_mem_append.mpr ⟨lw_r1, List.forall_mem_append.mpr ⟨lw_r2, lw_r3⟩⟩
-- ===== end of PART A; then your names; then what follows =====
def RX0 : String := "GlassValley$Bench"
def TX0 : u_T := fun k => match k with
  | 0 => ("GlassValley$Bench", "week", "I", false)
  | _ => ("GlassValley$Bench", "hoursLeft", "I", false)
def tyX0 : Nat → FieldType := fun k => match k with
  | 0 => .int
  | _ => .int
theorem nmX0 : ∀ a, a < 2 → ∀ b, b < 2 → a ≠ b → (TX0 a).2.1 ≠ (TX0 b).2.1 := by decide +kernel
theorem tyX0_ok : ∀ k, k < 2 → parseFieldDescriptor (TX0 k).2.2.1 = some (tyX0 k) := by decide +kernel
abbrev cX0_init : ByteArray := prog_2_method_1_code
def yX0_init : MethodName := ⟨RX0, "<init>", "()V"⟩
abbrev cX0_lay : ByteArray := prog_2_method_2_code
def yX0_lay : MethodName := ⟨RX0, "lay", "(LGlassValley$ShipOrder;LGlassValley$Family;LGlassValley$Rights;)Z"⟩
def RX1 : String := "GlassValley$CustomReader"
def TX1 : u_T := fun k => match k with
  | 0 => ("GlassValley$CustomReader", "tape", "LGlassValley$Tape;", true)
  | 1 => ("GlassValley$CustomReader", "lines", "I", false)
  | 2 => ("GlassValley$CustomReader", "faultKind", "I", false)
  | 3 => ("GlassValley$CustomReader", "faultPlace", "I", false)
  | _ => ("GlassValley$CustomReader", "numbers", "[I", true)
def tyX1 : Nat → FieldType := fun k => match k with
  | 0 => .object "GlassValley$Tape"
  | 1 => .int
  | 2 => .int
  | 3 => .int
  | _ => .array .int
theorem nmX1 : ∀ a, a < 5 → ∀ b, b < 5 → a ≠ b → (TX1 a).2.1 ≠ (TX1 b).2.1 := by decide +kernel
theorem tyX1_ok : ∀ k, k < 5 → parseFieldDescriptor (TX1 k).2.2.1 = some (tyX1 k) := by decide +kernel
abbrev cX1_init : ByteArray := prog_3_method_1_code
def yX1_init : MethodName := ⟨RX1, "<init>", "()V"⟩
abbrev cX1_readInto : ByteArray := prog_3_method_2_code
def yX1_readInto : MethodName := ⟨RX1, "readInto", "(LGlassValley$Rights;)Z"⟩
abbrev cX1_readLine : ByteArray := prog_3_method_3_code
def yX1_readLine : MethodName := ⟨RX1, "readLine", "(LGlassValley$Rights;)Z"⟩
abbrev cX1_formOf : ByteArray := prog_3_method_4_code
def yX1_formOf : MethodName := ⟨RX1, "formOf", "(I)[I"⟩
abbrev cX1_readParts : ByteArray := prog_3_method_5_code
def yX1_readParts : MethodName := ⟨RX1, "readParts", "([I)Z"⟩
abbrev cX1_leastOf : ByteArray := prog_3_method_6_code
def yX1_leastOf : MethodName := ⟨RX1, "leastOf", "(I)I"⟩
abbrev cX1_mostOf : ByteArray := prog_3_method_7_code
def yX1_mostOf : MethodName := ⟨RX1, "mostOf", "(I)I"⟩
abbrev cX1_tell : ByteArray := prog_3_method_8_code
def yX1_tell : MethodName := ⟨RX1, "tell", "(ILGlassValley$Rights;)V"⟩
abbrev cX1_stopAt : ByteArray := prog_3_method_9_code
def yX1_stopAt : MethodName := ⟨RX1, "stopAt", "(I)Z"⟩
def RX2 : String := "GlassValley$Family"
def TX2 : u_T := fun k => match k with
  | 0 => ("GlassValley$Family", "number", "I", true)
  | 1 => ("GlassValley$Family", "hours", "[I", true)
  | 2 => ("GlassValley$Family", "silver", "I", false)
  | _ => ("GlassValley$Family", "used", "I", false)
def tyX2 : Nat → FieldType := fun k => match k with
  | 0 => .int
  | 1 => .array .int
  | 2 => .int
  | _ => .int
theorem nmX2 : ∀ a, a < 4 → ∀ b, b < 4 → a ≠ b → (TX2 a).2.1 ≠ (TX2 b).2.1 := by decide +kernel
theorem tyX2_ok : ∀ k, k < 4 → parseFieldDescriptor (TX2 k).2.2.1 = some (tyX2 k) := by decide +kernel
abbrev cX2_init : ByteArray := prog_4_method_1_code
def yX2_init : MethodName := ⟨RX2, "<init>", "(I)V"⟩
def RX3 : String := "GlassValley$Pattern"
def TX3 : u_T := fun k => match k with
  | 0 => ("GlassValley$Pattern", "hours", "I", false)
  | 1 => ("GlassValley$Pattern", "silver", "I", false)
  | _ => ("GlassValley$Pattern", "breaks", "I", false)
def tyX3 : Nat → FieldType := fun k => match k with
  | 0 => .int
  | 1 => .int
  | _ => .int
theorem nmX3 : ∀ a, a < 3 → ∀ b, b < 3 → a ≠ b → (TX3 a).2.1 ≠ (TX3 b).2.1 := by decide +kernel
theorem tyX3_ok : ∀ k, k < 3 → parseFieldDescriptor (TX3 k).2.2.1 = some (tyX3 k) := by decide +kernel
abbrev cX3_init : ByteArray := prog_5_method_1_code
def yX3_init : MethodName := ⟨RX3, "<init>", "()V"⟩
abbrev cX3_grossToMake : ByteArray := prog_5_method_2_code
def yX3_grossToMake : MethodName := ⟨RX3, "grossToMake", "(I)I"⟩
def RX4 : String := "GlassValley$Plan"
def TX4 : u_T := fun k => match k with
  | 0 => ("GlassValley$Plan", "prices", "I", false)
  | 1 => ("GlassValley$Plan", "hours", "I", false)
  | 2 => ("GlassValley$Plan", "familyOf", "[I", true)
  | 3 => ("GlassValley$Plan", "overIn", "[I", true)
  | 4 => ("GlassValley$Plan", "hoursNow", "[I", true)
  | 5 => ("GlassValley$Plan", "row", "[I", true)
  | 6 => ("GlassValley$Plan", "open", "I", false)
  | 7 => ("GlassValley$Plan", "bench", "LGlassValley$Bench;", true)
  | 8 => ("GlassValley$Plan", "canBe", "[Z", true)
  | 9 => ("GlassValley$Plan", "endWeek", "[I", true)
  | 10 => ("GlassValley$Plan", "endHoursLeft", "[I", true)
  | 11 => ("GlassValley$Plan", "silver", "[I", true)
  | 12 => ("GlassValley$Plan", "rank", "[J", true)
  | 13 => ("GlassValley$Plan", "bestRank", "[J", true)
  | _ => ("GlassValley$Plan", "part", "[[I", true)
def tyX4 : Nat → FieldType := fun k => match k with
  | 0 => .int
  | 1 => .int
  | 2 => .array .int
  | 3 => .array .int
  | 4 => .array .int
  | 5 => .array .int
  | 6 => .int
  | 7 => .object "GlassValley$Bench"
  | 8 => .array .boolean
  | 9 => .array .int
  | 10 => .array .int
  | 11 => .array .int
  | 12 => .array .long
  | 13 => .array .long
  | _ => .array (.array .int)
theorem nmX4 : ∀ a, a < 15 → ∀ b, b < 15 → a ≠ b → (TX4 a).2.1 ≠ (TX4 b).2.1 := by decide +kernel
theorem tyX4_ok : ∀ k, k < 15 → parseFieldDescriptor (TX4 k).2.2.1 = some (tyX4 k) := by decide +kernel
abbrev cX4_init : ByteArray := prog_6_method_1_code
def yX4_init : MethodName := ⟨RX4, "<init>", "()V"⟩
abbrev cX4_find : ByteArray := prog_6_method_2_code
def yX4_find : MethodName := ⟨RX4, "find", "([LGlassValley$Family;[LGlassValley$ShipOrder;ILGlassValley$Rights;I)V"⟩
abbrev cX4_lineUp : ByteArray := prog_6_method_3_code
def yX4_lineUp : MethodName := ⟨RX4, "lineUp", "([LGlassValley$ShipOrder;I)V"⟩
abbrev cX4_startAt : ByteArray := prog_6_method_4_code
def yX4_startAt : MethodName := ⟨RX4, "startAt", "(LGlassValley$Family;I)V"⟩
abbrev cX4_addToSets : ByteArray := prog_6_method_5_code
def yX4_addToSets : MethodName := ⟨RX4, "addToSets", "(ILGlassValley$ShipOrder;LGlassValley$Family;LGlassValley$Rights;)V"⟩
abbrev cX4_rankOf : ByteArray := prog_6_method_6_code
def yX4_rankOf : MethodName := ⟨RX4, "rankOf", "(LGlassValley$ShipOrder;I)J"⟩
abbrev cX4_shareAlsoWith : ByteArray := prog_6_method_7_code
def yX4_shareAlsoWith : MethodName := ⟨RX4, "shareAlsoWith", "(I)V"⟩
abbrev cX4_tellWay : ByteArray := prog_6_method_8_code
def yX4_tellWay : MethodName := ⟨RX4, "tellWay", "([LGlassValley$Family;[LGlassValley$ShipOrder;LGlassValley$Rights;I)V"⟩
abbrev cX4_tellOrder : ByteArray := prog_6_method_9_code
def yX4_tellOrder : MethodName := ⟨RX4, "tellOrder", "(LGlassValley$ShipOrder;LGlassValley$Family;LGlassValley$Rights;I)V"⟩
def RX5 : String := "GlassValley$Rights"
def TX5 : u_T := fun k => match k with
  | 0 => ("GlassValley$Rights", "owner", "[I", true)
  | 1 => ("GlassValley$Rights", "lentUntil", "[[I", true)
  | _ => ("GlassValley$Rights", "barred", "[J", true)
def tyX5 : Nat → FieldType := fun k => match k with
  | 0 => .array .int
  | 1 => .array (.array .int)
  | _ => .array .long
theorem nmX5 : ∀ a, a < 3 → ∀ b, b < 3 → a ≠ b → (TX5 a).2.1 ≠ (TX5 b).2.1 := by decide +kernel
theorem tyX5_ok : ∀ k, k < 3 → parseFieldDescriptor (TX5 k).2.2.1 = some (tyX5 k) := by decide +kernel
abbrev cX5_init : ByteArray := prog_7_method_1_code
def yX5_init : MethodName := ⟨RX5, "<init>", "()V"⟩
abbrev cX5_forget : ByteArray := prog_7_method_2_code
def yX5_forget : MethodName := ⟨RX5, "forget", "()V"⟩
abbrev cX5_give : ByteArray := prog_7_method_3_code
def yX5_give : MethodName := ⟨RX5, "give", "(II)V"⟩
abbrev cX5_share : ByteArray := prog_7_method_4_code
def yX5_share : MethodName := ⟨RX5, "share", "(III)V"⟩
abbrev cX5_shut : ByteArray := prog_7_method_5_code
def yX5_shut : MethodName := ⟨RX5, "shut", "(III)V"⟩
abbrev cX5_allow : ByteArray := prog_7_method_6_code
def yX5_allow : MethodName := ⟨RX5, "allow", "(III)Z"⟩
def RX6 : String := "GlassValley$ShipOrder"
def TX6 : u_T := fun k => match k with
  | 0 => ("GlassValley$ShipOrder", "number", "I", true)
  | 1 => ("GlassValley$ShipOrder", "pattern", "I", false)
  | 2 => ("GlassValley$ShipOrder", "gross", "I", false)
  | 3 => ("GlassValley$ShipOrder", "due", "I", false)
  | 4 => ("GlassValley$ShipOrder", "price", "I", false)
  | 5 => ("GlassValley$ShipOrder", "made", "I", false)
  | 6 => ("GlassValley$ShipOrder", "hours", "I", false)
  | 7 => ("GlassValley$ShipOrder", "silver", "I", false)
  | 8 => ("GlassValley$ShipOrder", "state", "I", false)
  | 9 => ("GlassValley$ShipOrder", "worked", "I", false)
  | _ => ("GlassValley$ShipOrder", "workedBy", "I", false)
def tyX6 : Nat → FieldType := fun k => match k with
  | 0 => .int
  | 1 => .int
  | 2 => .int
  | 3 => .int
  | 4 => .int
  | 5 => .int
  | 6 => .int
  | 7 => .int
  | 8 => .int
  | 9 => .int
  | _ => .int
theorem nmX6 : ∀ a, a < 11 → ∀ b, b < 11 → a ≠ b → (TX6 a).2.1 ≠ (TX6 b).2.1 := by decide +kernel
theorem tyX6_ok : ∀ k, k < 11 → parseFieldDescriptor (TX6 k).2.2.1 = some (tyX6 k) := by decide +kernel
abbrev cX6_init : ByteArray := prog_8_method_1_code
def yX6_init : MethodName := ⟨RX6, "<init>", "(I)V"⟩
abbrev cX6_reckonAnew : ByteArray := prog_8_method_2_code
def yX6_reckonAnew : MethodName := ⟨RX6, "reckonAnew", "(LGlassValley$Pattern;)V"⟩
abbrev cX6_hoursLeftFor : ByteArray := prog_8_method_3_code
def yX6_hoursLeftFor : MethodName := ⟨RX6, "hoursLeftFor", "(I)I"⟩
abbrev cX6_workBy : ByteArray := prog_8_method_4_code
def yX6_workBy : MethodName := ⟨RX6, "workBy", "(II)V"⟩
def RX7 : String := "GlassValley$Tape"
def TX7 : u_T := fun k => match k with
  | 0 => ("GlassValley$Tape", "length", "I", false)
  | 1 => ("GlassValley$Tape", "token", "I", false)
  | 2 => ("GlassValley$Tape", "place", "I", false)
  | 3 => ("GlassValley$Tape", "value", "I", false)
  | 4 => ("GlassValley$Tape", "bytes", "[B", true)
  | _ => ("GlassValley$Tape", "next", "I", false)
def tyX7 : Nat → FieldType := fun k => match k with
  | 0 => .int
  | 1 => .int
  | 2 => .int
  | 3 => .int
  | 4 => .array .byte
  | _ => .int
theorem nmX7 : ∀ a, a < 6 → ∀ b, b < 6 → a ≠ b → (TX7 a).2.1 ≠ (TX7 b).2.1 := by decide +kernel
theorem tyX7_ok : ∀ k, k < 6 → parseFieldDescriptor (TX7 k).2.2.1 = some (tyX7 k) := by decide +kernel
abbrev cX7_init : ByteArray := prog_9_method_1_code
def yX7_init : MethodName := ⟨RX7, "<init>", "()V"⟩
abbrev cX7_put : ByteArray := prog_9_method_2_code
def yX7_put : MethodName := ⟨RX7, "put", "(I)V"⟩
abbrev cX7_rewind : ByteArray := prog_9_method_3_code
def yX7_rewind : MethodName := ⟨RX7, "rewind", "()V"⟩
abbrev cX7_readToken : ByteArray := prog_9_method_4_code
def yX7_readToken : MethodName := ⟨RX7, "readToken", "()V"⟩
abbrev cX7_skipBlanks : ByteArray := prog_9_method_5_code
def yX7_skipBlanks : MethodName := ⟨RX7, "skipBlanks", "()V"⟩
abbrev cX7_skipLetters : ByteArray := prog_9_method_6_code
def yX7_skipLetters : MethodName := ⟨RX7, "skipLetters", "()V"⟩
abbrev cX7_readNumber : ByteArray := prog_9_method_7_code
def yX7_readNumber : MethodName := ⟨RX7, "readNumber", "()V"⟩
abbrev cX7_keyword : ByteArray := prog_9_method_8_code
def yX7_keyword : MethodName := ⟨RX7, "keyword", "()I"⟩
abbrev cX7_isWord : ByteArray := prog_9_method_9_code
def yX7_isWord : MethodName := ⟨RX7, "isWord", "(Ljava/lang/String;)Z"⟩
abbrev cX7_isLetter : ByteArray := prog_9_method_10_code
def yX7_isLetter : MethodName := ⟨RX7, "isLetter", "(B)Z"⟩
abbrev cX7_isDigit : ByteArray := prog_9_method_11_code
def yX7_isDigit : MethodName := ⟨RX7, "isDigit", "(B)Z"⟩
def RX8 : String := "GlassValley"
def TX8 : u_T := fun k => match k with
  | 0 => ("GlassValley", "families", "[LGlassValley$Family;", true)
  | 1 => ("GlassValley", "patterns", "[LGlassValley$Pattern;", true)
  | 2 => ("GlassValley", "orders", "[LGlassValley$ShipOrder;", true)
  | 3 => ("GlassValley", "reader", "LGlassValley$CustomReader;", true)
  | 4 => ("GlassValley", "plan", "LGlassValley$Plan;", true)
  | 5 => ("GlassValley", "rights", "LGlassValley$Rights;", false)
  | 6 => ("GlassValley", "spareRights", "LGlassValley$Rights;", false)
  | 7 => ("GlassValley", "planned", "Z", false)
  | 8 => ("GlassValley", "week", "I", false)
  | 9 => ("GlassValley", "came", "I", false)
  | _ => ("GlassValley", "earned", "I", false)
def tyX8 : Nat → FieldType := fun k => match k with
  | 0 => .array (.object "GlassValley$Family")
  | 1 => .array (.object "GlassValley$Pattern")
  | 2 => .array (.object "GlassValley$ShipOrder")
  | 3 => .object "GlassValley$CustomReader"
  | 4 => .object "GlassValley$Plan"
  | 5 => .object "GlassValley$Rights"
  | 6 => .object "GlassValley$Rights"
  | 7 => .boolean
  | 8 => .int
  | 9 => .int
  | _ => .int
theorem nmX8 : ∀ a, a < 11 → ∀ b, b < 11 → a ≠ b → (TX8 a).2.1 ≠ (TX8 b).2.1 := by decide +kernel
theorem tyX8_ok : ∀ k, k < 11 → parseFieldDescriptor (TX8 k).2.2.1 = some (tyX8 k) := by decide +kernel
abbrev cX8_init : ByteArray := prog_1_method_1_code
def yX8_init : MethodName := ⟨RX8, "<init>", "()V"⟩
abbrev cX8_hours : ByteArray := prog_1_method_2_code
def yX8_hours : MethodName := ⟨RX8, "hours", "(III)Z"⟩
abbrev cX8_pattern : ByteArray := prog_1_method_3_code
def yX8_pattern : MethodName := ⟨RX8, "pattern", "(IIII)Z"⟩
abbrev cX8_lend : ByteArray := prog_1_method_4_code
def yX8_lend : MethodName := ⟨RX8, "lend", "(II)Z"⟩
abbrev cX8_bring : ByteArray := prog_1_method_5_code
def yX8_bring : MethodName := ⟨RX8, "bring", "(I)I"⟩
abbrev cX8_order : ByteArray := prog_1_method_6_code
def yX8_order : MethodName := ⟨RX8, "order", "(IIII)I"⟩
abbrev cX8_drop : ByteArray := prog_1_method_7_code
def yX8_drop : MethodName := ⟨RX8, "drop", "(I)Z"⟩
abbrev cX8_feed : ByteArray := prog_1_method_8_code
def yX8_feed : MethodName := ⟨RX8, "feed", "(IIIII)I"⟩
abbrev cX8_end : ByteArray := prog_1_method_9_code
def yX8_end : MethodName := ⟨RX8, "end", "(I)Z"⟩
abbrev cX8_custom : ByteArray := prog_1_method_10_code
def yX8_custom : MethodName := ⟨RX8, "custom", "()I"⟩
abbrev cX8_fault : ByteArray := prog_1_method_11_code
def yX8_fault : MethodName := ⟨RX8, "fault", "(I)I"⟩
abbrev cX8_may : ByteArray := prog_1_method_12_code
def yX8_may : MethodName := ⟨RX8, "may", "(III)I"⟩
abbrev cX8_look : ByteArray := prog_1_method_13_code
def yX8_look : MethodName := ⟨RX8, "look", "(I)I"⟩
abbrev cX8_of : ByteArray := prog_1_method_14_code
def yX8_of : MethodName := ⟨RX8, "of", "(II)I"⟩
abbrev cX8_best : ByteArray := prog_1_method_15_code
def yX8_best : MethodName := ⟨RX8, "best", "(I)I"⟩
abbrev cX8_work : ByteArray := prog_1_method_16_code
def yX8_work : MethodName := ⟨RX8, "work", "()I"⟩
abbrev cX8_workAsPlanned : ByteArray := prog_1_method_17_code
def yX8_workAsPlanned : MethodName := ⟨RX8, "workAsPlanned", "(LGlassValley$ShipOrder;)V"⟩
abbrev cX8_bringPlanUpToDate : ByteArray := prog_1_method_18_code
def yX8_bringPlanUpToDate : MethodName := ⟨RX8, "bringPlanUpToDate", "()V"⟩
abbrev cX8_countOrders : ByteArray := prog_1_method_19_code
def yX8_countOrders : MethodName := ⟨RX8, "countOrders", "(I)I"⟩
abbrev cX8_isOrder : ByteArray := prog_1_method_20_code
def yX8_isOrder : MethodName := ⟨RX8, "isOrder", "(I)Z"⟩
abbrev cX8_isWeekToCome : ByteArray := prog_1_method_21_code
def yX8_isWeekToCome : MethodName := ⟨RX8, "isWeekToCome", "(I)Z"⟩
abbrev cX8_isFamily : ByteArray := prog_1_method_22_code
def yX8_isFamily : MethodName := ⟨RX8, "isFamily", "(I)Z"⟩
abbrev cX8_isPattern : ByteArray := prog_1_method_23_code
def yX8_isPattern : MethodName := ⟨RX8, "isPattern", "(I)Z"⟩
abbrev cX8_isWithin : ByteArray := prog_1_method_24_code
def yX8_isWithin : MethodName := ⟨RX8, "isWithin", "(III)Z"⟩
def RX9 : String := "GlassValleyModel"
def TX9 : u_T := fun k => match k with
  | 0 => ("GlassValleyModel", "now", "I", false)
  | 1 => ("GlassValleyModel", "orders", "I", false)
  | 2 => ("GlassValleyModel", "earned", "I", false)
  | 3 => ("GlassValleyModel", "hour", "[I", true)
  | 4 => ("GlassValleyModel", "silver", "[I", true)
  | 5 => ("GlassValleyModel", "used", "[I", true)
  | 6 => ("GlassValleyModel", "takes", "[I", true)
  | 7 => ("GlassValleyModel", "needs", "[I", true)
  | 8 => ("GlassValleyModel", "breaks", "[I", true)
  | 9 => ("GlassValleyModel", "pattern", "[I", true)
  | 10 => ("GlassValleyModel", "gross", "[I", true)
  | 11 => ("GlassValleyModel", "due", "[I", true)
  | 12 => ("GlassValleyModel", "price", "[I", true)
  | 13 => ("GlassValleyModel", "made", "[I", true)
  | 14 => ("GlassValleyModel", "work", "[I", true)
  | 15 => ("GlassValleyModel", "metal", "[I", true)
  | 16 => ("GlassValleyModel", "state", "[I", true)
  | 17 => ("GlassValleyModel", "worked", "[I", true)
  | 18 => ("GlassValleyModel", "by", "[I", true)
  | 19 => ("GlassValleyModel", "owner", "[I", true)
  | 20 => ("GlassValleyModel", "lentTo", "[I", true)
  | 21 => ("GlassValleyModel", "barred", "[Z", true)
  | 22 => ("GlassValleyModel", "tape", "[I", true)
  | 23 => ("GlassValleyModel", "line", "[I", true)
  | 24 => ("GlassValleyModel", "taped", "I", false)
  | 25 => ("GlassValleyModel", "at", "I", false)
  | 26 => ("GlassValleyModel", "token", "I", false)
  | 27 => ("GlassValleyModel", "tokenAt", "I", false)
  | 28 => ("GlassValleyModel", "value", "I", false)
  | 29 => ("GlassValleyModel", "wrong", "I", false)
  | 30 => ("GlassValleyModel", "wrongAt", "I", false)
  | 31 => ("GlassValleyModel", "faultKind", "I", false)
  | 32 => ("GlassValleyModel", "lines", "I", false)
  | 33 => ("GlassValleyModel", "number", "I", false)
  | 34 => ("GlassValleyModel", "faultPlace", "I", false)
  | 35 => ("GlassValleyModel", "row", "[I", true)
  | 36 => ("GlassValleyModel", "many", "I", false)
  | 37 => ("GlassValleyModel", "over", "[I", true)
  | 38 => ("GlassValleyModel", "can", "[Z", true)
  | 39 => ("GlassValleyModel", "given", "[I", true)
  | 40 => ("GlassValleyModel", "best", "[I", true)
  | 41 => ("GlassValleyModel", "sets", "[I", true)
  | 42 => ("GlassValleyModel", "bestSum", "I", false)
  | _ => ("GlassValleyModel", "bestWork", "I", false)
def tyX9 : Nat → FieldType := fun k => match k with
  | 0 => .int
  | 1 => .int
  | 2 => .int
  | 3 => .array .int
  | 4 => .array .int
  | 5 => .array .int
  | 6 => .array .int
  | 7 => .array .int
  | 8 => .array .int
  | 9 => .array .int
  | 10 => .array .int
  | 11 => .array .int
  | 12 => .array .int
  | 13 => .array .int
  | 14 => .array .int
  | 15 => .array .int
  | 16 => .array .int
  | 17 => .array .int
  | 18 => .array .int
  | 19 => .array .int
  | 20 => .array .int
  | 21 => .array .boolean
  | 22 => .array .int
  | 23 => .array .int
  | 24 => .int
  | 25 => .int
  | 26 => .int
  | 27 => .int
  | 28 => .int
  | 29 => .int
  | 30 => .int
  | 31 => .int
  | 32 => .int
  | 33 => .int
  | 34 => .int
  | 35 => .array .int
  | 36 => .int
  | 37 => .array .int
  | 38 => .array .boolean
  | 39 => .array .int
  | 40 => .array .int
  | 41 => .array .int
  | 42 => .int
  | _ => .int
theorem nmX9 : ∀ a, a < 44 → ∀ b, b < 44 → a ≠ b → (TX9 a).2.1 ≠ (TX9 b).2.1 := by decide +kernel
theorem tyX9_ok : ∀ k, k < 44 → parseFieldDescriptor (TX9 k).2.2.1 = some (tyX9 k) := by decide +kernel
abbrev cX9_init : ByteArray := prog_11_method_1_code
def yX9_init : MethodName := ⟨RX9, "<init>", "()V"⟩
abbrev cX9_isIn : ByteArray := prog_11_method_2_code
def yX9_isIn : MethodName := ⟨RX9, "isIn", "(III)Z"⟩
abbrev cX9_isFamily : ByteArray := prog_11_method_3_code
def yX9_isFamily : MethodName := ⟨RX9, "isFamily", "(I)Z"⟩
abbrev cX9_isPattern : ByteArray := prog_11_method_4_code
def yX9_isPattern : MethodName := ⟨RX9, "isPattern", "(I)Z"⟩
abbrev cX9_isWeek : ByteArray := prog_11_method_5_code
def yX9_isWeek : MethodName := ⟨RX9, "isWeek", "(II)Z"⟩
abbrev cX9_hours : ByteArray := prog_11_method_6_code
def yX9_hours : MethodName := ⟨RX9, "hours", "(III)Z"⟩
abbrev cX9_counts : ByteArray := prog_11_method_7_code
def yX9_counts : MethodName := ⟨RX9, "counts", "(I)V"⟩
abbrev cX9_isOpen : ByteArray := prog_11_method_8_code
def yX9_isOpen : MethodName := ⟨RX9, "isOpen", "(I)Z"⟩
abbrev cX9_pattern : ByteArray := prog_11_method_9_code
def yX9_pattern : MethodName := ⟨RX9, "pattern", "(IIII)Z"⟩
abbrev cX9_lend : ByteArray := prog_11_method_10_code
def yX9_lend : MethodName := ⟨RX9, "lend", "(II)Z"⟩
abbrev cX9_bring : ByteArray := prog_11_method_11_code
def yX9_bring : MethodName := ⟨RX9, "bring", "(I)I"⟩
abbrev cX9_order : ByteArray := prog_11_method_12_code
def yX9_order : MethodName := ⟨RX9, "order", "(IIII)I"⟩
abbrev cX9_drop : ByteArray := prog_11_method_13_code
def yX9_drop : MethodName := ⟨RX9, "drop", "(I)Z"⟩
abbrev cX9_feed : ByteArray := prog_11_method_14_code
def yX9_feed : MethodName := ⟨RX9, "feed", "(IIIII)I"⟩
abbrev cX9_end : ByteArray := prog_11_method_15_code
def yX9_end : MethodName := ⟨RX9, "end", "(I)Z"⟩
abbrev cX9_see : ByteArray := prog_11_method_16_code
def yX9_see : MethodName := ⟨RX9, "see", "(I)I"⟩
abbrev cX9_isLetter : ByteArray := prog_11_method_17_code
def yX9_isLetter : MethodName := ⟨RX9, "isLetter", "(I)Z"⟩
abbrev cX9_isDigit : ByteArray := prog_11_method_18_code
def yX9_isDigit : MethodName := ⟨RX9, "isDigit", "(I)Z"⟩
abbrev cX9_word : ByteArray := prog_11_method_19_code
def yX9_word : MethodName := ⟨RX9, "word", "(J)I"⟩
abbrev cX9_next0 : ByteArray := prog_11_method_20_code
def yX9_next0 : MethodName := ⟨RX9, "next0", "()V"⟩
abbrev cX9_bad : ByteArray := prog_11_method_21_code
def yX9_bad : MethodName := ⟨RX9, "bad", "(I)Z"⟩
abbrev cX9_need : ByteArray := prog_11_method_22_code
def yX9_need : MethodName := ⟨RX9, "need", "(I)Z"⟩
abbrev cX9_aNumber : ByteArray := prog_11_method_23_code
def yX9_aNumber : MethodName := ⟨RX9, "aNumber", "(II)Z"⟩
abbrev cX9_aLine : ByteArray := prog_11_method_24_code
def yX9_aLine : MethodName := ⟨RX9, "aLine", "()Z"⟩
abbrev cX9_tells : ByteArray := prog_11_method_25_code
def yX9_tells : MethodName := ⟨RX9, "tells", "(I)V"⟩
abbrev cX9_custom : ByteArray := prog_11_method_26_code
def yX9_custom : MethodName := ⟨RX9, "custom", "()I"⟩
abbrev cX9_fault : ByteArray := prog_11_method_27_code
def yX9_fault : MethodName := ⟨RX9, "fault", "(I)I"⟩
abbrev cX9_isAllowed : ByteArray := prog_11_method_28_code
def yX9_isAllowed : MethodName := ⟨RX9, "isAllowed", "(III)Z"⟩
abbrev cX9_may : ByteArray := prog_11_method_29_code
def yX9_may : MethodName := ⟨RX9, "may", "(III)I"⟩
abbrev cX9_left : ByteArray := prog_11_method_30_code
def yX9_left : MethodName := ⟨RX9, "left", "(II)I"⟩
abbrev cX9_sorts : ByteArray := prog_11_method_31_code
def yX9_sorts : MethodName := ⟨RX9, "sorts", "(I)V"⟩
abbrev cX9_does : ByteArray := prog_11_method_32_code
def yX9_does : MethodName := ⟨RX9, "does", "(II)Z"⟩
abbrev cX9_canAll : ByteArray := prog_11_method_33_code
def yX9_canAll : MethodName := ⟨RX9, "canAll", "()Z"⟩
abbrev cX9_tries : ByteArray := prog_11_method_34_code
def yX9_tries : MethodName := ⟨RX9, "tries", "(III)V"⟩
abbrev cX9_finds : ByteArray := prog_11_method_35_code
def yX9_finds : MethodName := ⟨RX9, "finds", "()V"⟩
abbrev cX9_look : ByteArray := prog_11_method_36_code
def yX9_look : MethodName := ⟨RX9, "look", "(I)I"⟩
abbrev cX9_of : ByteArray := prog_11_method_37_code
def yX9_of : MethodName := ⟨RX9, "of", "(II)I"⟩
abbrev cX9_setOf : ByteArray := prog_11_method_38_code
def yX9_setOf : MethodName := ⟨RX9, "setOf", "(I)I"⟩
abbrev cX9_best : ByteArray := prog_11_method_39_code
def yX9_best : MethodName := ⟨RX9, "best", "(I)I"⟩
abbrev cX9_works : ByteArray := prog_11_method_40_code
def yX9_works : MethodName := ⟨RX9, "works", "(I)V"⟩
abbrev cX9_work : ByteArray := prog_11_method_41_code
def yX9_work : MethodName := ⟨RX9, "work", "()I"⟩
def RJ9 : String := "java/lang/Math"
def TJ9 : u_T := fun k => match k with
  | _ => ("", "", "", false)
def tyJ9 : Nat → FieldType := fun k => match k with
  | _ => .int
theorem nmJ9 : ∀ a, a < 0 → ∀ b, b < 0 → a ≠ b → (TJ9 a).2.1 ≠ (TJ9 b).2.1 := by decide +kernel
theorem tyJ9_ok : ∀ k, k < 0 → parseFieldDescriptor (TJ9 k).2.2.1 = some (tyJ9 k) := by decide +kernel
abbrev cJ9_max_7cf53 : ByteArray := prog_12_method_65_code
def yJ9_max_7cf53 : MethodName := ⟨RJ9, "max", "(II)I"⟩
abbrev cJ9_min_7cf53 : ByteArray := prog_12_method_69_code
def yJ9_min_7cf53 : MethodName := ⟨RJ9, "min", "(II)I"⟩
def RJ0 : String := "java/lang/String"
def TJ0 : u_T := fun k => match k with
  | _ => ("", "", "", false)
def tyJ0 : Nat → FieldType := fun k => match k with
  | _ => .int
theorem nmJ0 : ∀ a, a < 0 → ∀ b, b < 0 → a ≠ b → (TJ0 a).2.1 ≠ (TJ0 b).2.1 := by decide +kernel
theorem tyJ0_ok : ∀ k, k < 0 → parseFieldDescriptor (TJ0 k).2.2.1 = some (tyJ0 k) := by decide +kernel
abbrev cJ0_length_8abf5 : ByteArray := prog_13_method_54_code
def yJ0_length_8abf5 : MethodName := ⟨RJ0, "length", "()I"⟩
abbrev cJ0_charAt_5068e : ByteArray := prog_13_method_56_code
def yJ0_charAt_5068e : MethodName := ⟨RJ0, "charAt", "(I)C"⟩
abbrev cJ0_coder_7d493 : ByteArray := prog_13_method_152_code
def yJ0_coder_7d493 : MethodName := ⟨RJ0, "coder", "()B"⟩
abbrev cJ0_isLatin1_aae02 : ByteArray := prog_13_method_154_code
def yJ0_isLatin1_aae02 : MethodName := ⟨RJ0, "isLatin1", "()Z"⟩
abbrev cJ0_checkIndex_df160 : ByteArray := prog_13_method_155_code
def yJ0_checkIndex_df160 : MethodName := ⟨RJ0, "checkIndex", "(II)V"⟩
def RJ1 : String := "java/lang/StringLatin1"
def TJ1 : u_T := fun k => match k with
  | _ => ("", "", "", false)
def tyJ1 : Nat → FieldType := fun k => match k with
  | _ => .int
theorem nmJ1 : ∀ a, a < 0 → ∀ b, b < 0 → a ≠ b → (TJ1 a).2.1 ≠ (TJ1 b).2.1 := by decide +kernel
theorem tyJ1_ok : ∀ k, k < 0 → parseFieldDescriptor (TJ1 k).2.2.1 = some (tyJ1 k) := by decide +kernel
abbrev cJ1_charAt_3b067 : ByteArray := prog_14_method_2_code
def yJ1_charAt_3b067 : MethodName := ⟨RJ1, "charAt", "([BI)C"⟩
def RJ2 : String := "java/lang/StringUTF16"
def TJ2 : u_T := fun k => match k with
  | _ => ("", "", "", false)
def tyJ2 : Nat → FieldType := fun k => match k with
  | _ => .int
theorem nmJ2 : ∀ a, a < 0 → ∀ b, b < 0 → a ≠ b → (TJ2 a).2.1 ≠ (TJ2 b).2.1 := by decide +kernel
theorem tyJ2_ok : ∀ k, k < 0 → parseFieldDescriptor (TJ2 k).2.2.1 = some (tyJ2 k) := by decide +kernel
abbrev cJ2_getChar_3b067 : ByteArray := prog_15_method_5_code
def yJ2_getChar_3b067 : MethodName := ⟨RJ2, "getChar", "([BI)C"⟩
abbrev cJ2_length_9d52b : ByteArray := prog_15_method_6_code
def yJ2_length_9d52b : MethodName := ⟨RJ2, "length", "([B)I"⟩
abbrev cJ2_charAt_3b067 : ByteArray := prog_15_method_83_code
def yJ2_charAt_3b067 : MethodName := ⟨RJ2, "charAt", "([BI)C"⟩
abbrev cJ2_checkIndex_2214a : ByteArray := prog_15_method_91_code
def yJ2_checkIndex_2214a : MethodName := ⟨RJ2, "checkIndex", "(I[B)V"⟩
def RJ3 : String := "jdk/internal/util/Preconditions"
def TJ3 : u_T := fun k => match k with
  | _ => ("", "", "", false)
def tyJ3 : Nat → FieldType := fun k => match k with
  | _ => .int
theorem nmJ3 : ∀ a, a < 0 → ∀ b, b < 0 → a ≠ b → (TJ3 a).2.1 ≠ (TJ3 b).2.1 := by decide +kernel
theorem tyJ3_ok : ∀ k, k < 0 → parseFieldDescriptor (TJ3 k).2.2.1 = some (tyJ3 k) := by decide +kernel
abbrev cJ3_checkIndex_8e157 : ByteArray := prog_16_method_11_code
def yJ3_checkIndex_8e157 : MethodName := ⟨RJ3, "checkIndex", "(IILjava/util/function/BiFunction;)I"⟩
def RL : String := "GlassValleyLaw"
abbrev cL_law : ByteArray := code
def yL_law : MethodName := ⟨RL, "law", "([I)Z"⟩
abbrev vwCl : List vw_C := [(RX0, TX0, 2), (RX1, TX1, 5), (RX2, TX2, 4), (RX3, TX3, 3), (RX4, TX4, 15), (RX5, TX5, 3), (RX6, TX6, 11), (RX7, TX7, 6), (RX8, TX8, 11), (RX9, TX9, 44)]
