/-- a private method of a class that the tables say can be made, by its rows of tables_1 -/
def lw_okq (q : MethodName × Nat) : Prop := (q.1.cls ≠ "java/lang/invoke/MethodHandle" ∧ q.1.cls ≠ "java/lang/invoke/VarHandle") ∧ Cond.instantiable q.1.cls q.2 ∈ tables_1 ∧ Cond.privateMethod q.1 ∈ tables_1 ∧ Cond.instanceMethod q.1 ∈ tables_1
theorem lw_p0 : lw_okq (⟨"TwoPrints$Reader", "skipBlanks", "()V"⟩, 7) := ⟨⟨by decide +kernel, by decide +kernel⟩, List.mem_of_getElem? (i := 22) (by decide +kernel), List.mem_of_getElem? (i := 237) (by decide +kernel), List.mem_of_getElem? (i := 238) (by decide +kernel)⟩
theorem lw_p1 : lw_okq (⟨"TwoPrints$Reader", "readItem", "(LTwoPrints$Path;Z)V"⟩, 7) := ⟨⟨by decide +kernel, by decide +kernel⟩, List.mem_of_getElem? (i := 22) (by decide +kernel), List.mem_of_getElem? (i := 241) (by decide +kernel), List.mem_of_getElem? (i := 242) (by decide +kernel)⟩
theorem lw_p2 : lw_okq (⟨"TwoPrints$Reader", "passLetter", "(Z)V"⟩, 7) := ⟨⟨by decide +kernel, by decide +kernel⟩, List.mem_of_getElem? (i := 22) (by decide +kernel), List.mem_of_getElem? (i := 245) (by decide +kernel), List.mem_of_getElem? (i := 246) (by decide +kernel)⟩
theorem lw_p3 : lw_okq (⟨"TwoPrints$Reader", "failAt", "(I)V"⟩, 7) := ⟨⟨by decide +kernel, by decide +kernel⟩, List.mem_of_getElem? (i := 22) (by decide +kernel), List.mem_of_getElem? (i := 249) (by decide +kernel), List.mem_of_getElem? (i := 250) (by decide +kernel)⟩
theorem lw_p4 : lw_okq (⟨"TwoPrints$Reader", "readNumber", "(II)I"⟩, 7) := ⟨⟨by decide +kernel, by decide +kernel⟩, List.mem_of_getElem? (i := 22) (by decide +kernel), List.mem_of_getElem? (i := 253) (by decide +kernel), List.mem_of_getElem? (i := 254) (by decide +kernel)⟩
theorem lw_p5 : lw_okq (⟨"TwoPrints$Reader", "isDigitAt", "(I)Z"⟩, 7) := ⟨⟨by decide +kernel, by decide +kernel⟩, List.mem_of_getElem? (i := 22) (by decide +kernel), List.mem_of_getElem? (i := 257) (by decide +kernel), List.mem_of_getElem? (i := 258) (by decide +kernel)⟩
theorem lw_p6 : lw_okq (⟨"TwoPrints$Reader", "readWalker", "(LTwoPrints$Path;)V"⟩, 7) := ⟨⟨by decide +kernel, by decide +kernel⟩, List.mem_of_getElem? (i := 22) (by decide +kernel), List.mem_of_getElem? (i := 264) (by decide +kernel), List.mem_of_getElem? (i := 265) (by decide +kernel)⟩
theorem lw_p7 : lw_okq (⟨"TwoPrints$Reader", "readEnd", "()V"⟩, 7) := ⟨⟨by decide +kernel, by decide +kernel⟩, List.mem_of_getElem? (i := 22) (by decide +kernel), List.mem_of_getElem? (i := 268) (by decide +kernel), List.mem_of_getElem? (i := 269) (by decide +kernel)⟩
theorem lw_p8 : lw_okq (⟨"TwoPrints", "dropImages", "()V"⟩, 11) := ⟨⟨by decide +kernel, by decide +kernel⟩, List.mem_of_getElem? (i := 14) (by decide +kernel), List.mem_of_getElem? (i := 286) (by decide +kernel), List.mem_of_getElem? (i := 287) (by decide +kernel)⟩
theorem lw_p9 : lw_okq (⟨"TwoPrints", "dropFound", "()V"⟩, 11) := ⟨⟨by decide +kernel, by decide +kernel⟩, List.mem_of_getElem? (i := 14) (by decide +kernel), List.mem_of_getElem? (i := 290) (by decide +kernel), List.mem_of_getElem? (i := 291) (by decide +kernel)⟩
theorem lw_p10 : lw_okq (⟨"TwoPrints", "isPlace", "(II)Z"⟩, 11) := ⟨⟨by decide +kernel, by decide +kernel⟩, List.mem_of_getElem? (i := 14) (by decide +kernel), List.mem_of_getElem? (i := 315) (by decide +kernel), List.mem_of_getElem? (i := 316) (by decide +kernel)⟩
theorem lw_p11 : lw_okq (⟨"TwoPrints", "owes", "()I"⟩, 11) := ⟨⟨by decide +kernel, by decide +kernel⟩, List.mem_of_getElem? (i := 14) (by decide +kernel), List.mem_of_getElem? (i := 351) (by decide +kernel), List.mem_of_getElem? (i := 352) (by decide +kernel)⟩
theorem lw_p12 : lw_okq (⟨"TwoPrints$Prints", "countNear", "(II)I"⟩, 4) := ⟨⟨by decide +kernel, by decide +kernel⟩, List.mem_of_getElem? (i := 52) (by decide +kernel), List.mem_of_getElem? (i := 457) (by decide +kernel), List.mem_of_getElem? (i := 458) (by decide +kernel)⟩
theorem lw_p13 : lw_okq (⟨"TwoPrints$Prints", "firstFrom", "(II)I"⟩, 4) := ⟨⟨by decide +kernel, by decide +kernel⟩, List.mem_of_getElem? (i := 52) (by decide +kernel), List.mem_of_getElem? (i := 465) (by decide +kernel), List.mem_of_getElem? (i := 466) (by decide +kernel)⟩
theorem lw_p14 : lw_okq (⟨"TwoPrints$ChildsWay", "reach", "(III)V"⟩, 5) := ⟨⟨by decide +kernel, by decide +kernel⟩, List.mem_of_getElem? (i := 98) (by decide +kernel), List.mem_of_getElem? (i := 487) (by decide +kernel), List.mem_of_getElem? (i := 488) (by decide +kernel)⟩
theorem lw_p15 : lw_okq (⟨"TwoPrints$ChildsWay", "reachThoseBefore", "(LTwoPrints$Prints;II)V"⟩, 5) := ⟨⟨by decide +kernel, by decide +kernel⟩, List.mem_of_getElem? (i := 98) (by decide +kernel), List.mem_of_getElem? (i := 492) (by decide +kernel), List.mem_of_getElem? (i := 493) (by decide +kernel)⟩
def lw_privs_1 : List (MethodName × Nat) := [(⟨"TwoPrints$Reader", "skipBlanks", "()V"⟩, 7), (⟨"TwoPrints$Reader", "readItem", "(LTwoPrints$Path;Z)V"⟩, 7), (⟨"TwoPrints$Reader", "passLetter", "(Z)V"⟩, 7), (⟨"TwoPrints$Reader", "failAt", "(I)V"⟩, 7), (⟨"TwoPrints$Reader", "readNumber", "(II)I"⟩, 7), (⟨"TwoPrints$Reader", "isDigitAt", "(I)Z"⟩, 7), (⟨"TwoPrints$Reader", "readWalker", "(LTwoPrints$Path;)V"⟩, 7), (⟨"TwoPrints$Reader", "readEnd", "()V"⟩, 7), (⟨"TwoPrints", "dropImages", "()V"⟩, 11), (⟨"TwoPrints", "dropFound", "()V"⟩, 11), (⟨"TwoPrints", "isPlace", "(II)Z"⟩, 11), (⟨"TwoPrints", "owes", "()I"⟩, 11), (⟨"TwoPrints$Prints", "countNear", "(II)I"⟩, 4), (⟨"TwoPrints$Prints", "firstFrom", "(II)I"⟩, 4), (⟨"TwoPrints$ChildsWay", "reach", "(III)V"⟩, 5), (⟨"TwoPrints$ChildsWay", "reachThoseBefore", "(LTwoPrints$Prints;II)V"⟩, 5)]
theorem lw_r1 : ∀ q ∈ lw_privs_1, lw_okq q := List.forall_mem_cons.mpr ⟨lw_p0, List.forall_mem_cons.mpr ⟨lw_p1, List.forall_mem_cons.mpr ⟨lw_p2, List.forall_mem_cons.mpr ⟨lw_p3, List.forall_mem_cons.mpr ⟨lw_p4, List.forall_mem_cons.mpr ⟨lw_p5, List.forall_mem_cons.mpr ⟨lw_p6, List.forall_mem_cons.mpr ⟨lw_p7, List.forall_mem_cons.mpr ⟨lw_p8, List.forall_mem_cons.mpr ⟨lw_p9, List.forall_mem_cons.mpr ⟨lw_p10, List.forall_mem_cons.mpr ⟨lw_p11, List.forall_mem_cons.mpr ⟨lw_p12, List.forall_mem_cons.mpr ⟨lw_p13, List.forall_mem_cons.mpr ⟨lw_p14, List.forall_mem_cons.mpr ⟨lw_p15, fun _ h => absurd h List.not_mem_nil⟩⟩⟩⟩⟩⟩⟩⟩⟩⟩⟩⟩⟩⟩⟩⟩
theorem lw_p16 : lw_okq (⟨"TwoPrints$ChildsWay", "firstPrint", "()I"⟩, 5) := ⟨⟨by decide +kernel, by decide +kernel⟩, List.mem_of_getElem? (i := 98) (by decide +kernel), List.mem_of_getElem? (i := 505) (by decide +kernel), List.mem_of_getElem? (i := 506) (by decide +kernel)⟩
theorem lw_p17 : lw_okq (⟨"TwoPrints$ChildsWay", "nextOfFirstRow", "(LTwoPrints$Prints;II)I"⟩, 5) := ⟨⟨by decide +kernel, by decide +kernel⟩, List.mem_of_getElem? (i := 98) (by decide +kernel), List.mem_of_getElem? (i := 514) (by decide +kernel), List.mem_of_getElem? (i := 515) (by decide +kernel)⟩
theorem lw_p18 : lw_okq (⟨"TwoPrints", "shouldGo", "(IIII)Z"⟩, 11) := ⟨⟨by decide +kernel, by decide +kernel⟩, List.mem_of_getElem? (i := 14) (by decide +kernel), List.mem_of_getElem? (i := 523) (by decide +kernel), List.mem_of_getElem? (i := 524) (by decide +kernel)⟩
theorem lw_p19 : lw_okq (⟨"TwoPrints", "asFoot", "(I)I"⟩, 11) := ⟨⟨by decide +kernel, by decide +kernel⟩, List.mem_of_getElem? (i := 14) (by decide +kernel), List.mem_of_getElem? (i := 587) (by decide +kernel), List.mem_of_getElem? (i := 588) (by decide +kernel)⟩
theorem lw_p20 : lw_okq (⟨"TwoPrints", "asBoot", "(I)I"⟩, 11) := ⟨⟨by decide +kernel, by decide +kernel⟩, List.mem_of_getElem? (i := 14) (by decide +kernel), List.mem_of_getElem? (i := 591) (by decide +kernel), List.mem_of_getElem? (i := 592) (by decide +kernel)⟩
theorem lw_p21 : lw_okq (⟨"TwoPrints", "asChild", "(I)I"⟩, 11) := ⟨⟨by decide +kernel, by decide +kernel⟩, List.mem_of_getElem? (i := 14) (by decide +kernel), List.mem_of_getElem? (i := 596) (by decide +kernel), List.mem_of_getElem? (i := 597) (by decide +kernel)⟩
theorem lw_p22 : lw_okq (⟨"TwoPrints", "asLimp", "(I)I"⟩, 11) := ⟨⟨by decide +kernel, by decide +kernel⟩, List.mem_of_getElem? (i := 14) (by decide +kernel), List.mem_of_getElem? (i := 601) (by decide +kernel), List.mem_of_getElem? (i := 602) (by decide +kernel)⟩
theorem lw_p23 : lw_okq (⟨"TwoPrints", "asGift", "(I)I"⟩, 11) := ⟨⟨by decide +kernel, by decide +kernel⟩, List.mem_of_getElem? (i := 14) (by decide +kernel), List.mem_of_getElem? (i := 606) (by decide +kernel), List.mem_of_getElem? (i := 607) (by decide +kernel)⟩
theorem lw_p24 : lw_okq (⟨"TwoPrints", "asCow", "(I)I"⟩, 11) := ⟨⟨by decide +kernel, by decide +kernel⟩, List.mem_of_getElem? (i := 14) (by decide +kernel), List.mem_of_getElem? (i := 617) (by decide +kernel), List.mem_of_getElem? (i := 618) (by decide +kernel)⟩
theorem lw_p25 : lw_okq (⟨"TwoPrintsModel", "begins", "()V"⟩, 23) := ⟨⟨by decide +kernel, by decide +kernel⟩, List.mem_of_getElem? (i := 642) (by decide +kernel), List.mem_of_getElem? (i := 648) (by decide +kernel), List.mem_of_getElem? (i := 649) (by decide +kernel)⟩
theorem lw_p26 : lw_okq (⟨"TwoPrintsModel", "settles", "()V"⟩, 23) := ⟨⟨by decide +kernel, by decide +kernel⟩, List.mem_of_getElem? (i := 642) (by decide +kernel), List.mem_of_getElem? (i := 652) (by decide +kernel), List.mem_of_getElem? (i := 653) (by decide +kernel)⟩
theorem lw_p27 : lw_okq (⟨"TwoPrintsModel", "advances", "()V"⟩, 23) := ⟨⟨by decide +kernel, by decide +kernel⟩, List.mem_of_getElem? (i := 642) (by decide +kernel), List.mem_of_getElem? (i := 741) (by decide +kernel), List.mem_of_getElem? (i := 742) (by decide +kernel)⟩
theorem lw_p28 : lw_okq (⟨"TwoPrintsModel", "letterAt", "(I)I"⟩, 23) := ⟨⟨by decide +kernel, by decide +kernel⟩, List.mem_of_getElem? (i := 642) (by decide +kernel), List.mem_of_getElem? (i := 745) (by decide +kernel), List.mem_of_getElem? (i := 746) (by decide +kernel)⟩
theorem lw_p29 : lw_okq (⟨"TwoPrintsModel", "isWell", "()Z"⟩, 23) := ⟨⟨by decide +kernel, by decide +kernel⟩, List.mem_of_getElem? (i := 642) (by decide +kernel), List.mem_of_getElem? (i := 752) (by decide +kernel), List.mem_of_getElem? (i := 753) (by decide +kernel)⟩
theorem lw_p30 : lw_okq (⟨"TwoPrintsModel", "takes", "(Z)I"⟩, 23) := ⟨⟨by decide +kernel, by decide +kernel⟩, List.mem_of_getElem? (i := 642) (by decide +kernel), List.mem_of_getElem? (i := 759) (by decide +kernel), List.mem_of_getElem? (i := 760) (by decide +kernel)⟩
theorem lw_p31 : lw_okq (⟨"TwoPrintsModel", "readsItem", "(I)V"⟩, 23) := ⟨⟨by decide +kernel, by decide +kernel⟩, List.mem_of_getElem? (i := 642) (by decide +kernel), List.mem_of_getElem? (i := 763) (by decide +kernel), List.mem_of_getElem? (i := 764) (by decide +kernel)⟩
def lw_privs_2 : List (MethodName × Nat) := [(⟨"TwoPrints$ChildsWay", "firstPrint", "()I"⟩, 5), (⟨"TwoPrints$ChildsWay", "nextOfFirstRow", "(LTwoPrints$Prints;II)I"⟩, 5), (⟨"TwoPrints", "shouldGo", "(IIII)Z"⟩, 11), (⟨"TwoPrints", "asFoot", "(I)I"⟩, 11), (⟨"TwoPrints", "asBoot", "(I)I"⟩, 11), (⟨"TwoPrints", "asChild", "(I)I"⟩, 11), (⟨"TwoPrints", "asLimp", "(I)I"⟩, 11), (⟨"TwoPrints", "asGift", "(I)I"⟩, 11), (⟨"TwoPrints", "asCow", "(I)I"⟩, 11), (⟨"TwoPrintsModel", "begins", "()V"⟩, 23), (⟨"TwoPrintsModel", "settles", "()V"⟩, 23), (⟨"TwoPrintsModel", "advances", "()V"⟩, 23), (⟨"TwoPrintsModel", "letterAt", "(I)I"⟩, 23), (⟨"TwoPrintsModel", "isWell", "()Z"⟩, 23), (⟨"TwoPrintsModel", "takes", "(Z)I"⟩, 23), (⟨"TwoPrintsModel", "readsItem", "(I)V"⟩, 23)]
theorem lw_r2 : ∀ q ∈ lw_privs_2, lw_okq q := List.forall_mem_cons.mpr ⟨lw_p16, List.forall_mem_cons.mpr ⟨lw_p17, List.forall_mem_cons.mpr ⟨lw_p18, List.forall_mem_cons.mpr ⟨lw_p19, List.forall_mem_cons.mpr ⟨lw_p20, List.forall_mem_cons.mpr ⟨lw_p21, List.forall_mem_cons.mpr ⟨lw_p22, List.forall_mem_cons.mpr ⟨lw_p23, List.forall_mem_cons.mpr ⟨lw_p24, List.forall_mem_cons.mpr ⟨lw_p25, List.forall_mem_cons.mpr ⟨lw_p26, List.forall_mem_cons.mpr ⟨lw_p27, List.forall_mem_cons.mpr ⟨lw_p28, List.forall_mem_cons.mpr ⟨lw_p29, List.forall_mem_cons.mpr ⟨lw_p30, List.forall_mem_cons.mpr ⟨lw_p31, fun _ h => absurd h List.not_mem_nil⟩⟩⟩⟩⟩⟩⟩⟩⟩⟩⟩⟩⟩⟩⟩⟩
theorem lw_p32 : lw_okq (⟨"TwoPrintsModel", "number", "(II)I"⟩, 23) := ⟨⟨by decide +kernel, by decide +kernel⟩, List.mem_of_getElem? (i := 642) (by decide +kernel), List.mem_of_getElem? (i := 767) (by decide +kernel), List.mem_of_getElem? (i := 768) (by decide +kernel)⟩
theorem lw_p33 : lw_okq (⟨"TwoPrintsModel", "printsOf", "(II)I"⟩, 23) := ⟨⟨by decide +kernel, by decide +kernel⟩, List.mem_of_getElem? (i := 642) (by decide +kernel), List.mem_of_getElem? (i := 778) (by decide +kernel), List.mem_of_getElem? (i := 779) (by decide +kernel)⟩
theorem lw_p34 : lw_okq (⟨"TwoPrintsModel", "giftsFor", "(I)I"⟩, 23) := ⟨⟨by decide +kernel, by decide +kernel⟩, List.mem_of_getElem? (i := 642) (by decide +kernel), List.mem_of_getElem? (i := 782) (by decide +kernel), List.mem_of_getElem? (i := 783) (by decide +kernel)⟩
theorem lw_p35 : lw_okq (⟨"TwoPrintsModel", "isFoot", "(I)Z"⟩, 23) := ⟨⟨by decide +kernel, by decide +kernel⟩, List.mem_of_getElem? (i := 642) (by decide +kernel), List.mem_of_getElem? (i := 790) (by decide +kernel), List.mem_of_getElem? (i := 791) (by decide +kernel)⟩
theorem lw_p36 : lw_okq (⟨"TwoPrintsModel", "isBoth", "(I)Z"⟩, 23) := ⟨⟨by decide +kernel, by decide +kernel⟩, List.mem_of_getElem? (i := 642) (by decide +kernel), List.mem_of_getElem? (i := 802) (by decide +kernel), List.mem_of_getElem? (i := 803) (by decide +kernel)⟩
theorem lw_p37 : lw_okq (⟨"TwoPrintsModel", "hasPrint", "(II)Z"⟩, 23) := ⟨⟨by decide +kernel, by decide +kernel⟩, List.mem_of_getElem? (i := 642) (by decide +kernel), List.mem_of_getElem? (i := 806) (by decide +kernel), List.mem_of_getElem? (i := 807) (by decide +kernel)⟩
theorem lw_p38 : lw_okq (⟨"TwoPrintsModel", "peace", "()I"⟩, 23) := ⟨⟨by decide +kernel, by decide +kernel⟩, List.mem_of_getElem? (i := 642) (by decide +kernel), List.mem_of_getElem? (i := 810) (by decide +kernel), List.mem_of_getElem? (i := 811) (by decide +kernel)⟩
theorem lw_p39 : lw_okq (⟨"TwoPrintsModel", "notes", "()V"⟩, 23) := ⟨⟨by decide +kernel, by decide +kernel⟩, List.mem_of_getElem? (i := 642) (by decide +kernel), List.mem_of_getElem? (i := 818) (by decide +kernel), List.mem_of_getElem? (i := 819) (by decide +kernel)⟩
theorem lw_p40 : lw_okq (⟨"TwoPrintsModel", "on", "(IIII)I"⟩, 23) := ⟨⟨by decide +kernel, by decide +kernel⟩, List.mem_of_getElem? (i := 642) (by decide +kernel), List.mem_of_getElem? (i := 822) (by decide +kernel), List.mem_of_getElem? (i := 823) (by decide +kernel)⟩
theorem lw_p41 : lw_okq (⟨"TwoPrintsModel", "printsOfBoth", "()I"⟩, 23) := ⟨⟨by decide +kernel, by decide +kernel⟩, List.mem_of_getElem? (i := 642) (by decide +kernel), List.mem_of_getElem? (i := 834) (by decide +kernel), List.mem_of_getElem? (i := 835) (by decide +kernel)⟩
theorem lw_p42 : lw_okq (⟨"TwoPrintsModel", "whoseIs", "(I)I"⟩, 23) := ⟨⟨by decide +kernel, by decide +kernel⟩, List.mem_of_getElem? (i := 642) (by decide +kernel), List.mem_of_getElem? (i := 858) (by decide +kernel), List.mem_of_getElem? (i := 859) (by decide +kernel)⟩
theorem lw_p43 : lw_okq (⟨"TwoPrintsModel", "has", "(II)Z"⟩, 23) := ⟨⟨by decide +kernel, by decide +kernel⟩, List.mem_of_getElem? (i := 642) (by decide +kernel), List.mem_of_getElem? (i := 862) (by decide +kernel), List.mem_of_getElem? (i := 863) (by decide +kernel)⟩
theorem lw_p44 : lw_okq (⟨"TwoPrintsModel", "endOf", "(Z)I"⟩, 23) := ⟨⟨by decide +kernel, by decide +kernel⟩, List.mem_of_getElem? (i := 642) (by decide +kernel), List.mem_of_getElem? (i := 886) (by decide +kernel), List.mem_of_getElem? (i := 887) (by decide +kernel)⟩
theorem lw_p45 : lw_okq (⟨"TwoPrintsModel", "measures", "(II)V"⟩, 23) := ⟨⟨by decide +kernel, by decide +kernel⟩, List.mem_of_getElem? (i := 642) (by decide +kernel), List.mem_of_getElem? (i := 890) (by decide +kernel), List.mem_of_getElem? (i := 891) (by decide +kernel)⟩
theorem lw_p46 : lw_okq (⟨"TwoPrintsModel", "nearest", "(I)I"⟩, 23) := ⟨⟨by decide +kernel, by decide +kernel⟩, List.mem_of_getElem? (i := 642) (by decide +kernel), List.mem_of_getElem? (i := 896) (by decide +kernel), List.mem_of_getElem? (i := 897) (by decide +kernel)⟩
theorem lw_p47 : lw_okq (⟨"TwoPrintsModel", "cut", "(II)I"⟩, 23) := ⟨⟨by decide +kernel, by decide +kernel⟩, List.mem_of_getElem? (i := 642) (by decide +kernel), List.mem_of_getElem? (i := 904) (by decide +kernel), List.mem_of_getElem? (i := 905) (by decide +kernel)⟩
def lw_privs_3 : List (MethodName × Nat) := [(⟨"TwoPrintsModel", "number", "(II)I"⟩, 23), (⟨"TwoPrintsModel", "printsOf", "(II)I"⟩, 23), (⟨"TwoPrintsModel", "giftsFor", "(I)I"⟩, 23), (⟨"TwoPrintsModel", "isFoot", "(I)Z"⟩, 23), (⟨"TwoPrintsModel", "isBoth", "(I)Z"⟩, 23), (⟨"TwoPrintsModel", "hasPrint", "(II)Z"⟩, 23), (⟨"TwoPrintsModel", "peace", "()I"⟩, 23), (⟨"TwoPrintsModel", "notes", "()V"⟩, 23), (⟨"TwoPrintsModel", "on", "(IIII)I"⟩, 23), (⟨"TwoPrintsModel", "printsOfBoth", "()I"⟩, 23), (⟨"TwoPrintsModel", "whoseIs", "(I)I"⟩, 23), (⟨"TwoPrintsModel", "has", "(II)Z"⟩, 23), (⟨"TwoPrintsModel", "endOf", "(Z)I"⟩, 23), (⟨"TwoPrintsModel", "measures", "(II)V"⟩, 23), (⟨"TwoPrintsModel", "nearest", "(I)I"⟩, 23), (⟨"TwoPrintsModel", "cut", "(II)I"⟩, 23)]
theorem lw_r3 : ∀ q ∈ lw_privs_3, lw_okq q := List.forall_mem_cons.mpr ⟨lw_p32, List.forall_mem_cons.mpr ⟨lw_p33, List.forall_mem_cons.mpr ⟨lw_p34, List.forall_mem_cons.mpr ⟨lw_p35, List.forall_mem_cons.mpr ⟨lw_p36, List.forall_mem_cons.mpr ⟨lw_p37, List.forall_mem_cons.mpr ⟨lw_p38, List.forall_mem_cons.mpr ⟨lw_p39, List.forall_mem_cons.mpr ⟨lw_p40, List.forall_mem_cons.mpr ⟨lw_p41, List.forall_mem_cons.mpr ⟨lw_p42, List.forall_mem_cons.mpr ⟨lw_p43, List.forall_mem_cons.mpr ⟨lw_p44, List.forall_mem_cons.mpr ⟨lw_p45, List.forall_mem_cons.mpr ⟨lw_p46, List.forall_mem_cons.mpr ⟨lw_p47, fun _ h => absurd h List.not_mem_nil⟩⟩⟩⟩⟩⟩⟩⟩⟩⟩⟩⟩⟩⟩⟩⟩
def lw_privs : List (MethodName × Nat) := lw_privs_1 ++ (lw_privs_2 ++ (lw_privs_3))
def lw_tbl : List Cond := k2_sels lw_privs ++ tables_1
theorem lw_privs_ok : ∀ q ∈ lw_privs, lw_okq q := by
  show ∀ q ∈ lw_privs_1 ++ (lw_privs_2 ++ (lw_privs_3)), lw_okq q
  exact List.forall_mem_append.mpr ⟨lw_r1, List.forall_mem_append.mpr ⟨lw_r2, lw_r3⟩⟩
def sm_cn : Nat → String
  | 0 => "TwoPrints$ChildsWay"
  | 1 => "TwoPrints$Past"
  | 2 => "TwoPrints$Path"
  | 3 => "TwoPrints$Prints"
  | 4 => "TwoPrints$Reader"
  | 5 => "TwoPrints"
  | 6 => "TwoPrintsModel"
  | 7 => "TwoPrintsLaw"
  | 8 => "java/lang/Object"
  | 9 => "java/lang/Integer"
  | 10 => "java/lang/Long"
  | 11 => "java/lang/Math"
  | 12 => "java/lang/System"
  | _ => "java/util/Arrays"
def sm_T0 : u_T := fun k => match k with
  | 0 => ("TwoPrints$ChildsWay", "jumpsLeft", "[I", true)
  | 1 => ("TwoPrints$ChildsWay", "rows", "[I", true)
  | 2 => ("TwoPrints$ChildsWay", "queue", "[I", true)
  | 3 => ("TwoPrints$ChildsWay", "queued", "I", false)
  | _ => ("TwoPrints$ChildsWay", "beginning", "I", false)
def sm_ty0 : Nat → FieldType := fun k => match k with
  | 0 => (.array .int)
  | 1 => (.array .int)
  | 2 => (.array .int)
  | 3 => .int
  | _ => .int
def sm_T1 : u_T := fun k => match k with
  | 0 => ("TwoPrints$Past", "ring", "[LTwoPrints$Prints;", true)
  | 1 => ("TwoPrints$Past", "known", "I", false)
  | _ => ("TwoPrints$Past", "next", "I", false)
def sm_ty1 : Nat → FieldType := fun k => match k with
  | 0 => (.array (.object "TwoPrints$Prints"))
  | 1 => .int
  | _ => .int
def sm_T2 : u_T := fun k => match k with
  | 0 => ("TwoPrints$Path", "length", "I", false)
  | 1 => ("TwoPrints$Path", "beech", "I", false)
  | 2 => ("TwoPrints$Path", "plank", "I", false)
  | 3 => ("TwoPrints$Path", "turn", "I", false)
  | 4 => ("TwoPrints$Path", "starts", "[I", true)
  | 5 => ("TwoPrints$Path", "strides", "[I", true)
  | 6 => ("TwoPrints$Path", "speeds", "[I", true)
  | _ => ("TwoPrints$Path", "tracks", "[J", true)
def sm_ty2 : Nat → FieldType := fun k => match k with
  | 0 => .int
  | 1 => .int
  | 2 => .int
  | 3 => .int
  | 4 => (.array .int)
  | 5 => (.array .int)
  | 6 => (.array .int)
  | _ => (.array .long)
def sm_T3 : u_T := fun k => match k with
  | 0 => ("TwoPrints$Prints", "depths", "[[I", true)
  | 1 => ("TwoPrints$Prints", "gifts", "[J", true)
  | 2 => ("TwoPrints$Prints", "walked", "[I", true)
  | _ => ("TwoPrints$Prints", "taken", "[I", true)
def sm_ty3 : Nat → FieldType := fun k => match k with
  | 0 => (.array (.array .int))
  | 1 => (.array .long)
  | 2 => (.array .int)
  | _ => (.array .int)
def sm_T4 : u_T := fun k => match k with
  | 0 => ("TwoPrints$Reader", "letters", "[I", true)
  | 1 => ("TwoPrints$Reader", "size", "I", false)
  | 2 => ("TwoPrints$Reader", "at", "I", false)
  | 3 => ("TwoPrints$Reader", "fault", "I", false)
  | 4 => ("TwoPrints$Reader", "beechTold", "Z", false)
  | 5 => ("TwoPrints$Reader", "plankTold", "Z", false)
  | _ => ("TwoPrints$Reader", "turnTold", "Z", false)
def sm_ty4 : Nat → FieldType := fun k => match k with
  | 0 => (.array .int)
  | 1 => .int
  | 2 => .int
  | 3 => .int
  | 4 => .boolean
  | 5 => .boolean
  | _ => .boolean
def sm_T5 : u_T := fun k => match k with
  | 0 => ("TwoPrints", "text", "LTwoPrints$Reader;", true)
  | 1 => ("TwoPrints", "present", "LTwoPrints$Prints;", true)
  | 2 => ("TwoPrints", "past", "LTwoPrints$Past;", true)
  | 3 => ("TwoPrints", "images", "[LTwoPrints$Prints;", true)
  | 4 => ("TwoPrints", "kept", "[Z", true)
  | 5 => ("TwoPrints", "way", "LTwoPrints$ChildsWay;", true)
  | 6 => ("TwoPrints", "laid", "LTwoPrints$Path;", false)
  | 7 => ("TwoPrints", "draft", "LTwoPrints$Path;", false)
  | 8 => ("TwoPrints", "found", "J", false)
  | 9 => ("TwoPrints", "foundCount", "I", false)
  | _ => ("TwoPrints", "traced", "J", false)
def sm_ty5 : Nat → FieldType := fun k => match k with
  | 0 => (.object "TwoPrints$Reader")
  | 1 => (.object "TwoPrints$Prints")
  | 2 => (.object "TwoPrints$Past")
  | 3 => (.array (.object "TwoPrints$Prints"))
  | 4 => (.array .boolean)
  | 5 => (.object "TwoPrints$ChildsWay")
  | 6 => (.object "TwoPrints$Path")
  | 7 => (.object "TwoPrints$Path")
  | 8 => .long
  | 9 => .int
  | _ => .long
def sm_T6 : u_T := fun k => match k with
  | 0 => ("TwoPrintsModel", "thrown", "I", false)
  | 1 => ("TwoPrintsModel", "trace", "J", false)
  | 2 => ("TwoPrintsModel", "text", "[I", true)
  | 3 => ("TwoPrintsModel", "typed", "I", false)
  | 4 => ("TwoPrintsModel", "next", "I", false)
  | 5 => ("TwoPrintsModel", "token", "I", false)
  | 6 => ("TwoPrintsModel", "place", "I", false)
  | 7 => ("TwoPrintsModel", "value", "I", false)
  | 8 => ("TwoPrintsModel", "fault", "I", false)
  | 9 => ("TwoPrintsModel", "many", "[I", true)
  | 10 => ("TwoPrintsModel", "told", "I", false)
  | 11 => ("TwoPrintsModel", "start", "[I", true)
  | 12 => ("TwoPrintsModel", "stride", "[I", true)
  | 13 => ("TwoPrintsModel", "speed", "[I", true)
  | 14 => ("TwoPrintsModel", "s", "[I", true)
  | 15 => ("TwoPrintsModel", "kept", "[I", true)
  | 16 => ("TwoPrintsModel", "isKept", "[Z", true)
  | 17 => ("TwoPrintsModel", "undos", "[I", true)
  | 18 => ("TwoPrintsModel", "undoMany", "I", false)
  | 19 => ("TwoPrintsModel", "found", "[I", true)
  | 20 => ("TwoPrintsModel", "foundMany", "I", false)
  | 21 => ("TwoPrintsModel", "far", "[I", true)
  | _ => ("TwoPrintsModel", "ways", "[I", true)
def sm_ty6 : Nat → FieldType := fun k => match k with
  | 0 => .int
  | 1 => .long
  | 2 => (.array .int)
  | 3 => .int
  | 4 => .int
  | 5 => .int
  | 6 => .int
  | 7 => .int
  | 8 => .int
  | 9 => (.array .int)
  | 10 => .int
  | 11 => (.array .int)
  | 12 => (.array .int)
  | 13 => (.array .int)
  | 14 => (.array .int)
  | 15 => (.array .int)
  | 16 => (.array .boolean)
  | 17 => (.array .int)
  | 18 => .int
  | 19 => (.array .int)
  | 20 => .int
  | 21 => (.array .int)
  | _ => (.array .int)
def sm_T : Nat → u_T
  | 0 => sm_T0
  | 1 => sm_T1
  | 2 => sm_T2
  | 3 => sm_T3
  | 4 => sm_T4
  | 5 => sm_T5
  | _ => sm_T6
def sm_ty : Nat → Nat → FieldType
  | 0 => sm_ty0
  | 1 => sm_ty1
  | 2 => sm_ty2
  | 3 => sm_ty3
  | 4 => sm_ty4
  | 5 => sm_ty5
  | _ => sm_ty6
def sm_N : Nat → Nat
  | 0 => 5
  | 1 => 3
  | 2 => 8
  | 3 => 4
  | 4 => 7
  | 5 => 11
  | _ => 23
def sm_cl : List vw_C := [(sm_cn 0, sm_T 0, sm_N 0), (sm_cn 1, sm_T 1, sm_N 1), (sm_cn 2, sm_T 2, sm_N 2), (sm_cn 3, sm_T 3, sm_N 3), (sm_cn 4, sm_T 4, sm_N 4), (sm_cn 5, sm_T 5, sm_N 5), (sm_cn 6, sm_T 6, sm_N 6)]
/-- places of the words of the fields -/
def sm_fp : Nat → List Nat
  | 0 => [156, 158, 160, 162, 164]
  | 1 => [138, 140, 142]
  | 2 => [212, 214, 216, 218, 220, 222, 224, 226]
  | 3 => [115, 117, 119, 121]
  | 4 => [83, 85, 87, 89, 91, 93, 95]
  | 5 => [240, 242, 244, 246, 248, 250, 252, 254, 256, 258, 260]
  | _ => [726, 728, 730, 732, 734, 736, 738, 740, 742, 744, 746, 748, 750, 752, 754, 756, 758, 760, 762, 764, 766, 768, 770]
abbrev m_ChildsWay_init : Nat := 0
abbrev m_ChildsWay_countBack : Nat := 1
abbrev m_ChildsWay_reach : Nat := 2
abbrev m_ChildsWay_reachThoseBefore : Nat := 3
abbrev m_ChildsWay_howManyRows : Nat := 4
abbrev m_ChildsWay_fewest : Nat := 5
abbrev m_ChildsWay_firstPrint : Nat := 6
abbrev m_ChildsWay_printOfFirstRow : Nat := 7
abbrev m_ChildsWay_nextOfFirstRow : Nat := 8
abbrev m_Past_init : Nat := 9
abbrev m_Past_loseAll : Nat := 10
abbrev m_Past_remember : Nat := 11
abbrev m_Past_recallInto : Nat := 12
abbrev m_Path_init : Nat := 13
abbrev m_Path_asAtFirst : Nat := 14
abbrev m_Path_layTracks : Nat := 15
abbrev m_Path_trackOf : Nat := 16
abbrev m_Path_hasFoot : Nat := 17
abbrev m_Path_tracksWith : Nat := 18
abbrev m_Path_minuteAt : Nat := 19
abbrev m_Path_hasTurn : Nat := 20
abbrev m_Prints_init : Nat := 21
abbrev m_Prints_wipe : Nat := 22
abbrev m_Prints_snowOver : Nat := 23
abbrev m_Prints_deeperThan : Nat := 24
abbrev m_Prints_hasGift : Nat := 25
abbrev m_Prints_feetOfBoth : Nat := 26
abbrev m_Prints_hasPrint : Nat := 27
abbrev m_Prints_leastRainForPeace : Nat := 28
abbrev m_Prints_becomes : Nat := 29
abbrev m_Prints_tread : Nat := 30
abbrev m_Prints_rainOn : Nat := 31
abbrev m_Prints_ofBoth : Nat := 32
abbrev m_Prints_removePrint : Nat := 33
abbrev m_Prints_countJumps : Nat := 34
abbrev m_Prints_countNear : Nat := 35
abbrev m_Prints_firstJump : Nat := 36
abbrev m_Prints_firstFrom : Nat := 37
abbrev m_Prints_lowestFoot : Nat := 38
abbrev m_Prints_highestFoot : Nat := 39
abbrev m_Reader_init : Nat := 40
abbrev m_Reader_append : Nat := 41
abbrev m_Reader_readInto : Nat := 42
abbrev m_Reader_skipBlanks : Nat := 43
abbrev m_Reader_readItem : Nat := 44
abbrev m_Reader_passLetter : Nat := 45
abbrev m_Reader_failAt : Nat := 46
abbrev m_Reader_readNumber : Nat := 47
abbrev m_Reader_isDigitAt : Nat := 48
abbrev m_Reader_readWalker : Nat := 49
abbrev m_Reader_readEnd : Nat := 50
abbrev m_TwoPrints_init : Nat := 51
abbrev m_TwoPrints_type : Nat := 52
abbrev m_TwoPrints_clear : Nat := 53
abbrev m_TwoPrints_path : Nat := 54
abbrev m_TwoPrints_dropImages : Nat := 55
abbrev m_TwoPrints_dropFound : Nat := 56
abbrev m_TwoPrints_walker : Nat := 57
abbrev m_TwoPrints_isWalker : Nat := 58
abbrev m_TwoPrints_depth : Nat := 59
abbrev m_TwoPrints_isPlace : Nat := 60
abbrev m_TwoPrints_gift : Nat := 61
abbrev m_TwoPrints_now : Nat := 62
abbrev m_TwoPrints_owes : Nat := 63
abbrev m_TwoPrints_walks : Nat := 64
abbrev m_TwoPrints_gives : Nat := 65
abbrev m_TwoPrints_rains : Nat := 66
abbrev m_TwoPrints_snows : Nat := 67
abbrev m_TwoPrints_cows : Nat := 68
abbrev m_TwoPrints_fills : Nat := 69
abbrev m_TwoPrints_undo : Nat := 70
abbrev m_TwoPrints_whose : Nat := 71
abbrev m_TwoPrints_both : Nat := 72
abbrev m_TwoPrints_nthFoot : Nat := 73
abbrev m_TwoPrints_tells : Nat := 74
abbrev m_TwoPrints_isTrack : Nat := 75
abbrev m_TwoPrints_left : Nat := 76
abbrev m_TwoPrints_jumps : Nat := 77
abbrev m_TwoPrints_isJump : Nat := 78
abbrev m_TwoPrints_child : Nat := 79
abbrev m_TwoPrints_go : Nat := 80
abbrev m_TwoPrints_shouldGo : Nat := 81
abbrev m_TwoPrints_odds : Nat := 82
abbrev m_TwoPrints_isTenths : Nat := 83
abbrev m_TwoPrints_chanceOf : Nat := 84
abbrev m_TwoPrints_choose : Nat := 85
abbrev m_TwoPrints_power : Nat := 86
abbrev m_TwoPrints_inLeastTerms : Nat := 87
abbrev m_TwoPrints_commonDivisor : Nat := 88
abbrev m_TwoPrints_onePath : Nat := 89
abbrev m_TwoPrints_finds : Nat := 90
abbrev m_TwoPrints_forget : Nat := 91
abbrev m_TwoPrints_who : Nat := 92
abbrev m_TwoPrints_strangers : Nat := 93
abbrev m_TwoPrints_rate : Nat := 94
abbrev m_TwoPrints_asFoot : Nat := 95
abbrev m_TwoPrints_asBoot : Nat := 96
abbrev m_TwoPrints_asChild : Nat := 97
abbrev m_TwoPrints_asLimp : Nat := 98
abbrev m_TwoPrints_asGift : Nat := 99
abbrev m_TwoPrints_asCow : Nat := 100
abbrev m_TwoPrints_keep : Nat := 101
abbrev m_TwoPrints_isImage : Nat := 102
abbrev m_TwoPrints_back : Nat := 103
abbrev m_TwoPrints_count : Nat := 104
abbrev m_TwoPrints_trace : Nat := 105
abbrev m_Model_init : Nat := 106
abbrev m_Model_begins : Nat := 107
abbrev m_Model_settles : Nat := 108
abbrev m_Model_type : Nat := 109
abbrev m_Model_in : Nat := 110
abbrev m_Model_clear : Nat := 111
abbrev m_Model_path : Nat := 112
abbrev m_Model_advances : Nat := 113
abbrev m_Model_letterAt : Nat := 114
abbrev m_Model_isLetter : Nat := 115
abbrev m_Model_isWell : Nat := 116
abbrev m_Model_bitOf : Nat := 117
abbrev m_Model_takes : Nat := 118
abbrev m_Model_readsItem : Nat := 119
abbrev m_Model_number : Nat := 120
abbrev m_Model_walker : Nat := 121
abbrev m_Model_isWalker : Nat := 122
abbrev m_Model_printsOf : Nat := 123
abbrev m_Model_giftsFor : Nat := 124
abbrev m_Model_depth : Nat := 125
abbrev m_Model_isFoot : Nat := 126
abbrev m_Model_gift : Nat := 127
abbrev m_Model_now : Nat := 128
abbrev m_Model_isBoth : Nat := 129
abbrev m_Model_hasPrint : Nat := 130
abbrev m_Model_peace : Nat := 131
abbrev m_Model_walks : Nat := 132
abbrev m_Model_notes : Nat := 133
abbrev m_Model_on : Nat := 134
abbrev m_Model_gives : Nat := 135
abbrev m_Model_rains : Nat := 136
abbrev m_Model_printsOfBoth : Nat := 137
abbrev m_Model_snows : Nat := 138
abbrev m_Model_cows : Nat := 139
abbrev m_Model_fills : Nat := 140
abbrev m_Model_undo : Nat := 141
abbrev m_Model_whose : Nat := 142
abbrev m_Model_whoseIs : Nat := 143
abbrev m_Model_has : Nat := 144
abbrev m_Model_both : Nat := 145
abbrev m_Model_tells : Nat := 146
abbrev m_Model_left : Nat := 147
abbrev m_Model_jumps : Nat := 148
abbrev m_Model_child : Nat := 149
abbrev m_Model_endOf : Nat := 150
abbrev m_Model_measures : Nat := 151
abbrev m_Model_nearest : Nat := 152
abbrev m_Model_go : Nat := 153
abbrev m_Model_cut : Nat := 154
abbrev m_Model_odds : Nat := 155
abbrev m_Model_ones : Nat := 156
abbrev m_Model_power : Nat := 157
abbrev m_Model_part : Nat := 158
abbrev m_Model_gcd : Nat := 159
abbrev m_Model_onePath : Nat := 160
abbrev m_Model_finds : Nat := 161
abbrev m_Model_forget : Nat := 162
abbrev m_Model_who : Nat := 163
abbrev m_Model_strangers : Nat := 164
abbrev m_Model_rate : Nat := 165
abbrev m_Model_keep : Nat := 166
abbrev m_Model_back : Nat := 167
abbrev m_Model_count : Nat := 168
abbrev m_Model_trace : Nat := 169
abbrev m_Integer_bitCount : Nat := 170
abbrev m_Long_bitCount : Nat := 171
abbrev m_Arrays_fill : Nat := 172
abbrev m_Law_law : Nat := 173
abbrev sm_Row : Type := MethodName × ByteArray × Nat × Option FieldType × Nat × Nat × Nat × Nat × Nat
def sm_mt0 : List sm_Row := [(⟨"TwoPrints$ChildsWay", "<init>", "()V"⟩, prog_2_method_1_code, 1, none, 0, 1, 3, 366, 149),
  (⟨"TwoPrints$ChildsWay", "countBack", "(LTwoPrints$Prints;I)V"⟩, prog_2_method_2_code, 5, none, 0, 2, 0, 0, 523),
  (⟨"TwoPrints$ChildsWay", "reach", "(III)V"⟩, prog_2_method_4_code, 4, none, 0, 0, 0, 0, 537),
  (⟨"TwoPrints$ChildsWay", "reachThoseBefore", "(LTwoPrints$Prints;II)V"⟩, prog_2_method_3_code, 7, none, 0, 1, 0, 0, 542),
  (⟨"TwoPrints$ChildsWay", "howManyRows", "()I"⟩, prog_2_method_7_code, 5, (some .int), 0, 2, 0, 0, 547),
  (⟨"TwoPrints$ChildsWay", "fewest", "()I"⟩, prog_2_method_5_code, 2, (some .int), 0, 1, 0, 0, 551),
  (⟨"TwoPrints$ChildsWay", "firstPrint", "()I"⟩, prog_2_method_6_code, 5, (some .int), 0, 0, 0, 0, 555),
  (⟨"TwoPrints$ChildsWay", "printOfFirstRow", "(LTwoPrints$Prints;II)I"⟩, prog_2_method_8_code, 6, (some .int), 0, 2, 0, 0, 560),
  (⟨"TwoPrints$ChildsWay", "nextOfFirstRow", "(LTwoPrints$Prints;II)I"⟩, prog_2_method_9_code, 9, (some .int), 0, 1, 0, 0, 564),
  (⟨"TwoPrints$Past", "<init>", "()V"⟩, prog_3_method_1_code, 2, none, 1, 2, 57, 1080, 129),
  (⟨"TwoPrints$Past", "loseAll", "()V"⟩, prog_3_method_4_code, 1, none, 1, 0, 0, 0, 332),
  (⟨"TwoPrints$Past", "remember", "(LTwoPrints$Prints;)V"⟩, prog_3_method_2_code, 2, none, 1, 2, 0, 0, 409),
  (⟨"TwoPrints$Past", "recallInto", "(LTwoPrints$Prints;)Z"⟩, prog_3_method_3_code, 2, (some .boolean), 1, 2, 0, 0, 465),
  (⟨"TwoPrints$Path", "<init>", "()V"⟩, prog_4_method_1_code, 1, none, 2, 2, 4, 10, 172),
  (⟨"TwoPrints$Path", "asAtFirst", "()V"⟩, prog_4_method_2_code, 1, none, 2, 1, 0, 0, 177),
  (⟨"TwoPrints$Path", "layTracks", "()V"⟩, prog_4_method_3_code, 2, none, 2, 1, 0, 0, 184),
  (⟨"TwoPrints$Path", "trackOf", "(III)J"⟩, prog_4_method_4_code, 8, (some .long), 2, 0, 0, 0, 188),
  (⟨"TwoPrints$Path", "hasFoot", "(I)Z"⟩, prog_4_method_5_code, 2, (some .boolean), 2, 0, 0, 0, 369),
  (⟨"TwoPrints$Path", "tracksWith", "(J)I"⟩, prog_4_method_6_code, 5, (some .int), 2, 0, 0, 0, 473),
  (⟨"TwoPrints$Path", "minuteAt", "(III)I"⟩, prog_4_method_7_code, 5, (some .int), 2, 1, 0, 0, 577),
  (⟨"TwoPrints$Path", "hasTurn", "(II)Z"⟩, prog_4_method_8_code, 3, (some .boolean), 2, 1, 0, 0, 582),
  (⟨"TwoPrints$Prints", "<init>", "()V"⟩, prog_5_method_1_code, 1, none, 3, 1, 6, 130, 103),
  (⟨"TwoPrints$Prints", "wipe", "()V"⟩, prog_5_method_3_code, 1, none, 3, 2, 0, 0, 323),
  (⟨"TwoPrints$Prints", "snowOver", "()V"⟩, prog_5_method_4_code, 2, none, 3, 1, 0, 0, 327),
  (⟨"TwoPrints$Prints", "deeperThan", "(II)I"⟩, prog_5_method_10_code, 5, (some .int), 3, 0, 0, 0, 351),
  (⟨"TwoPrints$Prints", "hasGift", "(II)Z"⟩, prog_5_method_9_code, 3, (some .boolean), 3, 0, 0, 0, 377),
  (⟨"TwoPrints$Prints", "feetOfBoth", "()I"⟩, prog_5_method_12_code, 3, (some .int), 3, 1, 0, 0, 385),
  (⟨"TwoPrints$Prints", "hasPrint", "(II)Z"⟩, prog_5_method_8_code, 3, (some .boolean), 3, 0, 0, 0, 389),
  (⟨"TwoPrints$Prints", "leastRainForPeace", "()I"⟩, prog_5_method_13_code, 3, (some .int), 3, 1, 0, 0, 393),
  (⟨"TwoPrints$Prints", "becomes", "(LTwoPrints$Prints;)V"⟩, prog_5_method_2_code, 3, none, 3, 1, 0, 0, 413),
  (⟨"TwoPrints$Prints", "tread", "(IJ)V"⟩, prog_5_method_5_code, 5, none, 3, 1, 0, 0, 421),
  (⟨"TwoPrints$Prints", "rainOn", "(I)V"⟩, prog_5_method_6_code, 4, none, 3, 1, 0, 0, 435),
  (⟨"TwoPrints$Prints", "ofBoth", "()I"⟩, prog_5_method_11_code, 1, (some .int), 3, 1, 0, 0, 439),
  (⟨"TwoPrints$Prints", "removePrint", "(II)V"⟩, prog_5_method_7_code, 3, none, 3, 0, 0, 0, 453),
  (⟨"TwoPrints$Prints", "countJumps", "(I)I"⟩, prog_5_method_14_code, 4, (some .int), 3, 2, 0, 0, 503),
  (⟨"TwoPrints$Prints", "countNear", "(II)I"⟩, prog_5_method_15_code, 6, (some .int), 3, 1, 0, 0, 507),
  (⟨"TwoPrints$Prints", "firstJump", "(I)I"⟩, prog_5_method_16_code, 4, (some .int), 3, 2, 0, 0, 511),
  (⟨"TwoPrints$Prints", "firstFrom", "(II)I"⟩, prog_5_method_17_code, 4, (some .int), 3, 1, 0, 0, 515),
  (⟨"TwoPrints$Prints", "lowestFoot", "()I"⟩, prog_5_method_18_code, 2, (some .int), 3, 1, 0, 0, 528),
  (⟨"TwoPrints$Prints", "highestFoot", "()I"⟩, prog_5_method_19_code, 2, (some .int), 3, 1, 0, 0, 532)]
def sm_mt1 : List sm_Row := [(⟨"TwoPrints$Reader", "<init>", "()V"⟩, prog_6_method_1_code, 1, none, 4, 1, 1, 120, 73),
  (⟨"TwoPrints$Reader", "append", "(I)Z"⟩, prog_6_method_2_code, 2, (some .boolean), 4, 0, 0, 0, 270),
  (⟨"TwoPrints$Reader", "readInto", "(LTwoPrints$Path;)I"⟩, prog_6_method_3_code, 4, (some .int), 4, 4, 0, 0, 282),
  (⟨"TwoPrints$Reader", "skipBlanks", "()V"⟩, prog_6_method_10_code, 2, none, 4, 0, 0, 0, 287),
  (⟨"TwoPrints$Reader", "readItem", "(LTwoPrints$Path;Z)V"⟩, prog_6_method_4_code, 3, none, 4, 3, 0, 0, 291),
  (⟨"TwoPrints$Reader", "passLetter", "(Z)V"⟩, prog_6_method_6_code, 2, none, 4, 1, 0, 0, 295),
  (⟨"TwoPrints$Reader", "failAt", "(I)V"⟩, prog_6_method_11_code, 2, none, 4, 0, 0, 0, 299),
  (⟨"TwoPrints$Reader", "readNumber", "(II)I"⟩, prog_6_method_8_code, 7, (some .int), 4, 1, 0, 0, 303),
  (⟨"TwoPrints$Reader", "isDigitAt", "(I)Z"⟩, prog_6_method_9_code, 2, (some .boolean), 4, 0, 0, 0, 307),
  (⟨"TwoPrints$Reader", "readWalker", "(LTwoPrints$Path;)V"⟩, prog_6_method_5_code, 3, none, 4, 2, 0, 0, 314),
  (⟨"TwoPrints$Reader", "readEnd", "()V"⟩, prog_6_method_7_code, 1, none, 4, 1, 0, 0, 318),
  (⟨"TwoPrints", "<init>", "()V"⟩, prog_1_method_1_code, 2, none, 5, 3, 97, 2023, 65),
  (⟨"TwoPrints", "type", "(I)I"⟩, prog_1_method_2_code, 2, (some .int), 5, 1, 0, 0, 266),
  (⟨"TwoPrints", "clear", "()I"⟩, prog_1_method_3_code, 2, (some .int), 5, 0, 0, 0, 274),
  (⟨"TwoPrints", "path", "()I"⟩, prog_1_method_4_code, 3, (some .int), 5, 5, 0, 0, 278),
  (⟨"TwoPrints", "dropImages", "()V"⟩, prog_1_method_45_code, 2, none, 5, 0, 0, 0, 336),
  (⟨"TwoPrints", "dropFound", "()V"⟩, prog_1_method_34_code, 1, none, 5, 0, 0, 0, 340),
  (⟨"TwoPrints", "walker", "(II)I"⟩, prog_1_method_5_code, 3, (some .int), 5, 1, 0, 0, 344),
  (⟨"TwoPrints", "isWalker", "(I)Z"⟩, prog_1_method_49_code, 1, (some .boolean), 5, 0, 0, 0, 347),
  (⟨"TwoPrints", "depth", "(II)I"⟩, prog_1_method_6_code, 3, (some .int), 5, 2, 0, 0, 361),
  (⟨"TwoPrints", "isPlace", "(II)Z"⟩, prog_1_method_54_code, 3, (some .boolean), 5, 1, 0, 0, 365),
  (⟨"TwoPrints", "gift", "(II)I"⟩, prog_1_method_7_code, 3, (some .int), 5, 2, 0, 0, 373),
  (⟨"TwoPrints", "now", "(I)I"⟩, prog_1_method_8_code, 2, (some .int), 5, 2, 0, 0, 381),
  (⟨"TwoPrints", "owes", "()I"⟩, prog_1_method_9_code, 3, (some .int), 5, 0, 0, 0, 401),
  (⟨"TwoPrints", "walks", "(II)I"⟩, prog_1_method_10_code, 5, (some .int), 5, 3, 0, 0, 405),
  (⟨"TwoPrints", "gives", "(II)I"⟩, prog_1_method_11_code, 4, (some .int), 5, 3, 0, 0, 427),
  (⟨"TwoPrints", "rains", "(I)I"⟩, prog_1_method_12_code, 2, (some .int), 5, 3, 0, 0, 431),
  (⟨"TwoPrints", "snows", "()I"⟩, prog_1_method_13_code, 2, (some .int), 5, 3, 0, 0, 444),
  (⟨"TwoPrints", "cows", "(I)I"⟩, prog_1_method_14_code, 5, (some .int), 5, 3, 0, 0, 449),
  (⟨"TwoPrints", "fills", "(II)I"⟩, prog_1_method_15_code, 4, (some .int), 5, 3, 0, 0, 457),
  (⟨"TwoPrints", "undo", "()I"⟩, prog_1_method_16_code, 1, (some .int), 5, 3, 0, 0, 461),
  (⟨"TwoPrints", "whose", "(I)I"⟩, prog_1_method_17_code, 2, (some .int), 5, 1, 0, 0, 469),
  (⟨"TwoPrints", "both", "(I)I"⟩, prog_1_method_18_code, 4, (some .int), 5, 1, 0, 0, 478),
  (⟨"TwoPrints", "nthFoot", "(JI)I"⟩, prog_1_method_55_code, 5, (some .int), 5, 0, 0, 0, 481),
  (⟨"TwoPrints", "tells", "(II)I"⟩, prog_1_method_19_code, 3, (some .int), 5, 1, 0, 0, 485),
  (⟨"TwoPrints", "isTrack", "(I)Z"⟩, prog_1_method_50_code, 1, (some .boolean), 5, 0, 0, 0, 488),
  (⟨"TwoPrints", "left", "(II)I"⟩, prog_1_method_20_code, 3, (some .int), 5, 1, 0, 0, 492),
  (⟨"TwoPrints", "jumps", "(II)I"⟩, prog_1_method_21_code, 3, (some .int), 5, 3, 0, 0, 496),
  (⟨"TwoPrints", "isJump", "(I)Z"⟩, prog_1_method_52_code, 1, (some .boolean), 5, 0, 0, 0, 499),
  (⟨"TwoPrints", "child", "(II)I"⟩, prog_1_method_22_code, 3, (some .int), 5, 3, 0, 0, 519)]
def sm_mt2 : List sm_Row := [(⟨"TwoPrints", "go", "(IIII)I"⟩, prog_1_method_23_code, 9, (some .int), 5, 3, 0, 0, 569),
  (⟨"TwoPrints", "shouldGo", "(IIII)Z"⟩, prog_1_method_24_code, 5, (some .boolean), 5, 2, 0, 0, 573),
  (⟨"TwoPrints", "odds", "(IIII)I"⟩, prog_1_method_25_code, 8, (some .int), 5, 2, 0, 0, 586),
  (⟨"TwoPrints", "isTenths", "(I)Z"⟩, prog_1_method_53_code, 1, (some .boolean), 5, 0, 0, 0, 589),
  (⟨"TwoPrints", "chanceOf", "(III)I"⟩, prog_1_method_27_code, 3, (some .int), 5, 1, 0, 0, 593),
  (⟨"TwoPrints", "choose", "(II)I"⟩, prog_1_method_28_code, 4, (some .int), 5, 0, 0, 0, 596),
  (⟨"TwoPrints", "power", "(II)I"⟩, prog_1_method_29_code, 4, (some .int), 5, 0, 0, 0, 599),
  (⟨"TwoPrints", "inLeastTerms", "(III)I"⟩, prog_1_method_30_code, 4, (some .int), 5, 1, 0, 0, 602),
  (⟨"TwoPrints", "commonDivisor", "(II)I"⟩, prog_1_method_31_code, 6, (some .int), 5, 0, 0, 0, 605),
  (⟨"TwoPrints", "onePath", "(III)I"⟩, prog_1_method_26_code, 7, (some .int), 5, 2, 0, 0, 610),
  (⟨"TwoPrints", "finds", "(I)I"⟩, prog_1_method_32_code, 2, (some .int), 5, 1, 0, 0, 614),
  (⟨"TwoPrints", "forget", "()I"⟩, prog_1_method_33_code, 2, (some .int), 5, 1, 0, 0, 618),
  (⟨"TwoPrints", "who", "()I"⟩, prog_1_method_35_code, 1, (some .int), 5, 1, 0, 0, 622),
  (⟨"TwoPrints", "strangers", "(I)I"⟩, prog_1_method_36_code, 6, (some .int), 5, 1, 0, 0, 626),
  (⟨"TwoPrints", "rate", "(II)I"⟩, prog_1_method_37_code, 3, (some .int), 5, 3, 0, 0, 632),
  (⟨"TwoPrints", "asFoot", "(I)I"⟩, prog_1_method_38_code, 2, (some .int), 5, 0, 0, 0, 637),
  (⟨"TwoPrints", "asBoot", "(I)I"⟩, prog_1_method_39_code, 2, (some .int), 5, 1, 0, 0, 641),
  (⟨"TwoPrints", "asChild", "(I)I"⟩, prog_1_method_40_code, 2, (some .int), 5, 1, 0, 0, 646),
  (⟨"TwoPrints", "asLimp", "(I)I"⟩, prog_1_method_41_code, 2, (some .int), 5, 2, 0, 0, 651),
  (⟨"TwoPrints", "asGift", "(I)I"⟩, prog_1_method_42_code, 2, (some .int), 5, 2, 0, 0, 656),
  (⟨"TwoPrints", "asCow", "(I)I"⟩, prog_1_method_43_code, 2, (some .int), 5, 1, 0, 0, 667),
  (⟨"TwoPrints", "keep", "(I)I"⟩, prog_1_method_44_code, 2, (some .int), 5, 2, 0, 0, 672),
  (⟨"TwoPrints", "isImage", "(I)Z"⟩, prog_1_method_51_code, 1, (some .boolean), 5, 0, 0, 0, 675),
  (⟨"TwoPrints", "back", "(I)I"⟩, prog_1_method_46_code, 2, (some .int), 5, 2, 0, 0, 680),
  (⟨"TwoPrints", "count", "(I)I"⟩, prog_1_method_47_code, 2, (some .int), 5, 0, 0, 0, 684),
  (⟨"TwoPrints", "trace", "()J"⟩, prog_1_method_48_code, 1, (some .long), 5, 0, 0, 0, 688),
  (⟨"TwoPrintsModel", "<init>", "()V"⟩, prog_8_method_1_code, 1, none, 6, 1, 12, 3120, 693),
  (⟨"TwoPrintsModel", "begins", "()V"⟩, prog_8_method_12_code, 2, none, 6, 0, 0, 0, 698),
  (⟨"TwoPrintsModel", "settles", "()V"⟩, prog_8_method_16_code, 2, none, 6, 0, 0, 0, 702),
  (⟨"TwoPrintsModel", "type", "(I)I"⟩, prog_8_method_4_code, 2, (some .int), 6, 1, 0, 0, 776),
  (⟨"TwoPrintsModel", "in", "(III)Z"⟩, prog_8_method_3_code, 3, (some .boolean), 6, 0, 0, 0, 779),
  (⟨"TwoPrintsModel", "clear", "()I"⟩, prog_8_method_5_code, 2, (some .int), 6, 0, 0, 0, 783),
  (⟨"TwoPrintsModel", "path", "()I"⟩, prog_8_method_15_code, 4, (some .int), 6, 5, 0, 0, 787),
  (⟨"TwoPrintsModel", "advances", "()V"⟩, prog_8_method_8_code, 2, none, 6, 1, 0, 0, 791),
  (⟨"TwoPrintsModel", "letterAt", "(I)I"⟩, prog_8_method_6_code, 2, (some .int), 6, 0, 0, 0, 795),
  (⟨"TwoPrintsModel", "isLetter", "(I)Z"⟩, prog_8_method_7_code, 1, (some .boolean), 6, 0, 0, 0, 798),
  (⟨"TwoPrintsModel", "isWell", "()Z"⟩, prog_8_method_9_code, 1, (some .boolean), 6, 0, 0, 0, 802),
  (⟨"TwoPrintsModel", "bitOf", "(I)I"⟩, prog_8_method_13_code, 1, (some .int), 6, 0, 0, 0, 805),
  (⟨"TwoPrintsModel", "takes", "(Z)I"⟩, prog_8_method_10_code, 3, (some .int), 6, 2, 0, 0, 809),
  (⟨"TwoPrintsModel", "readsItem", "(I)V"⟩, prog_8_method_14_code, 6, none, 6, 4, 0, 0, 813)]
def sm_mt3 : List sm_Row := [(⟨"TwoPrintsModel", "number", "(II)I"⟩, prog_8_method_11_code, 3, (some .int), 6, 3, 0, 0, 817),
  (⟨"TwoPrintsModel", "walker", "(II)I"⟩, prog_8_method_23_code, 3, (some .int), 6, 2, 0, 0, 821),
  (⟨"TwoPrintsModel", "isWalker", "(I)Z"⟩, prog_8_method_17_code, 1, (some .boolean), 6, 1, 0, 0, 824),
  (⟨"TwoPrintsModel", "printsOf", "(II)I"⟩, prog_8_method_21_code, 5, (some .int), 6, 0, 0, 0, 828),
  (⟨"TwoPrintsModel", "giftsFor", "(I)I"⟩, prog_8_method_22_code, 4, (some .int), 6, 0, 0, 0, 832),
  (⟨"TwoPrintsModel", "depth", "(II)I"⟩, prog_8_method_24_code, 3, (some .int), 6, 2, 0, 0, 836),
  (⟨"TwoPrintsModel", "isFoot", "(I)Z"⟩, prog_8_method_18_code, 2, (some .boolean), 6, 1, 0, 0, 840),
  (⟨"TwoPrintsModel", "gift", "(II)I"⟩, prog_8_method_25_code, 3, (some .int), 6, 2, 0, 0, 844),
  (⟨"TwoPrintsModel", "now", "(I)I"⟩, prog_8_method_27_code, 4, (some .int), 6, 2, 0, 0, 848),
  (⟨"TwoPrintsModel", "isBoth", "(I)Z"⟩, prog_8_method_20_code, 2, (some .boolean), 6, 1, 0, 0, 852),
  (⟨"TwoPrintsModel", "hasPrint", "(II)Z"⟩, prog_8_method_19_code, 3, (some .boolean), 6, 0, 0, 0, 856),
  (⟨"TwoPrintsModel", "peace", "()I"⟩, prog_8_method_26_code, 6, (some .int), 6, 0, 0, 0, 860),
  (⟨"TwoPrintsModel", "walks", "(II)I"⟩, prog_8_method_30_code, 5, (some .int), 6, 2, 0, 0, 864),
  (⟨"TwoPrintsModel", "notes", "()V"⟩, prog_8_method_28_code, 2, none, 6, 0, 0, 0, 868),
  (⟨"TwoPrintsModel", "on", "(IIII)I"⟩, prog_8_method_29_code, 5, (some .int), 6, 0, 0, 0, 872),
  (⟨"TwoPrintsModel", "gives", "(II)I"⟩, prog_8_method_31_code, 3, (some .int), 6, 2, 0, 0, 876),
  (⟨"TwoPrintsModel", "rains", "(I)I"⟩, prog_8_method_33_code, 3, (some .int), 6, 2, 0, 0, 880),
  (⟨"TwoPrintsModel", "printsOfBoth", "()I"⟩, prog_8_method_32_code, 1, (some .int), 6, 1, 0, 0, 884),
  (⟨"TwoPrintsModel", "snows", "()I"⟩, prog_8_method_34_code, 3, (some .int), 6, 2, 0, 0, 888),
  (⟨"TwoPrintsModel", "cows", "(I)I"⟩, prog_8_method_35_code, 5, (some .int), 6, 2, 0, 0, 892),
  (⟨"TwoPrintsModel", "fills", "(II)I"⟩, prog_8_method_36_code, 4, (some .int), 6, 2, 0, 0, 896),
  (⟨"TwoPrintsModel", "undo", "()I"⟩, prog_8_method_37_code, 2, (some .int), 6, 0, 0, 0, 900),
  (⟨"TwoPrintsModel", "whose", "(I)I"⟩, prog_8_method_40_code, 2, (some .int), 6, 3, 0, 0, 904),
  (⟨"TwoPrintsModel", "whoseIs", "(I)I"⟩, prog_8_method_39_code, 4, (some .int), 6, 2, 0, 0, 908),
  (⟨"TwoPrintsModel", "has", "(II)Z"⟩, prog_8_method_38_code, 6, (some .boolean), 6, 1, 0, 0, 912),
  (⟨"TwoPrintsModel", "both", "(I)I"⟩, prog_8_method_41_code, 4, (some .int), 6, 2, 0, 0, 916),
  (⟨"TwoPrintsModel", "tells", "(II)I"⟩, prog_8_method_42_code, 4, (some .int), 6, 2, 0, 0, 920),
  (⟨"TwoPrintsModel", "left", "(II)I"⟩, prog_8_method_43_code, 3, (some .int), 6, 2, 0, 0, 924),
  (⟨"TwoPrintsModel", "jumps", "(II)I"⟩, prog_8_method_44_code, 7, (some .int), 6, 1, 0, 0, 928),
  (⟨"TwoPrintsModel", "child", "(II)I"⟩, prog_8_method_48_code, 8, (some .int), 6, 2, 0, 0, 932),
  (⟨"TwoPrintsModel", "endOf", "(Z)I"⟩, prog_8_method_45_code, 5, (some .int), 6, 1, 0, 0, 936),
  (⟨"TwoPrintsModel", "measures", "(II)V"⟩, prog_8_method_46_code, 11, none, 6, 1, 0, 0, 940),
  (⟨"TwoPrintsModel", "nearest", "(I)I"⟩, prog_8_method_47_code, 4, (some .int), 6, 0, 0, 0, 946),
  (⟨"TwoPrintsModel", "go", "(IIII)I"⟩, prog_8_method_50_code, 10, (some .int), 6, 2, 0, 0, 950),
  (⟨"TwoPrintsModel", "cut", "(II)I"⟩, prog_8_method_49_code, 3, (some .int), 6, 0, 0, 0, 954),
  (⟨"TwoPrintsModel", "odds", "(IIII)I"⟩, prog_8_method_55_code, 8, (some .int), 6, 2, 0, 0, 958),
  (⟨"TwoPrintsModel", "ones", "(I)I"⟩, prog_8_method_52_code, 3, (some .int), 6, 0, 0, 0, 961),
  (⟨"TwoPrintsModel", "power", "(II)I"⟩, prog_8_method_53_code, 4, (some .int), 6, 0, 0, 0, 964),
  (⟨"TwoPrintsModel", "part", "(III)I"⟩, prog_8_method_54_code, 4, (some .int), 6, 1, 0, 0, 967),
  (⟨"TwoPrintsModel", "gcd", "(II)I"⟩, prog_8_method_51_code, 5, (some .int), 6, 0, 0, 0, 970)]
def sm_mt4 : List sm_Row := [(⟨"TwoPrintsModel", "onePath", "(III)I"⟩, prog_8_method_56_code, 6, (some .int), 6, 2, 0, 0, 974),
  (⟨"TwoPrintsModel", "finds", "(I)I"⟩, prog_8_method_57_code, 2, (some .int), 6, 2, 0, 0, 978),
  (⟨"TwoPrintsModel", "forget", "()I"⟩, prog_8_method_58_code, 2, (some .int), 6, 0, 0, 0, 982),
  (⟨"TwoPrintsModel", "who", "()I"⟩, prog_8_method_59_code, 3, (some .int), 6, 3, 0, 0, 986),
  (⟨"TwoPrintsModel", "strangers", "(I)I"⟩, prog_8_method_60_code, 8, (some .int), 6, 1, 0, 0, 990),
  (⟨"TwoPrintsModel", "rate", "(II)I"⟩, prog_8_method_61_code, 6, (some .int), 6, 3, 0, 0, 994),
  (⟨"TwoPrintsModel", "keep", "(I)I"⟩, prog_8_method_62_code, 3, (some .int), 6, 2, 0, 0, 1004),
  (⟨"TwoPrintsModel", "back", "(I)I"⟩, prog_8_method_63_code, 3, (some .int), 6, 2, 0, 0, 1008),
  (⟨"TwoPrintsModel", "count", "(I)I"⟩, prog_8_method_64_code, 2, (some .int), 6, 1, 0, 0, 1012),
  (⟨"TwoPrintsModel", "trace", "()J"⟩, prog_8_method_65_code, 1, (some .long), 6, 0, 0, 0, 1016),
  (⟨"java/lang/Integer", "bitCount", "(I)I"⟩, prog_9_method_49_code, 1, (some .int), 9, 0, 0, 0, 660),
  (⟨"java/lang/Long", "bitCount", "(J)I"⟩, prog_10_method_50_code, 2, (some .int), 10, 0, 0, 0, 354),
  (⟨"java/util/Arrays", "fill", "([II)V"⟩, prog_13_method_103_code, 4, none, 13, 0, 0, 0, 180),
  (⟨"TwoPrintsLaw", "law", "([I)Z"⟩, code, 4, some .boolean, 7, 8, 600000, 7302250, 0)]
def sm_mt : List sm_Row := sm_mt0 ++ (sm_mt1 ++ (sm_mt2 ++ (sm_mt3 ++ (sm_mt4))))
def sm_row (y : Nat) : sm_Row := sm_mt.getD y (⟨"", "", ""⟩, ⟨#[]⟩, 0, none, 99, 0, 0, 0, 0)
def sm_nm (y : Nat) : MethodName := (sm_row y).1
def sm_cd (y : Nat) : ByteArray := (sm_row y).2.1
def sm_ml (y : Nat) : Nat := (sm_row y).2.2.1
def sm_rt (y : Nat) : Option FieldType := (sm_row y).2.2.2.1
def sm_oc (y : Nat) : Nat := (sm_row y).2.2.2.2.1
def sm_lv (y : Nat) : Nat := (sm_row y).2.2.2.2.2.1
def sm_mc (y : Nat) : Nat := (sm_row y).2.2.2.2.2.2.1
def sm_ms (y : Nat) : Nat := (sm_row y).2.2.2.2.2.2.2.1
def sm_pl (y : Nat) : Nat := (sm_row y).2.2.2.2.2.2.2.2
def sm_look {α : Type} : List (Nat × Nat × α) → Nat → Nat → Option α
  | [], _, _ => none
  | (o, i, x) :: l, a, b => if o = a ∧ i = b then some x else sm_look l a b
/-- fields: class of the code, pool index; class, field, place of the word -/
def sm_ft : List (Nat × Nat × Nat × Nat × Nat) := [(4, 9, 4, 0, 75), (4, 15, 4, 1, 76), (5, 59, 4, 1, 77), (4, 24, 4, 2, 78), (4, 27, 4, 3, 79), (4, 30, 4, 4, 80), (4, 34, 4, 5, 81), (4, 37, 4, 6, 82), (3, 11, 3, 0, 107), (5, 116, 3, 0, 108), (3, 16, 3, 1, 109), (5, 99, 3, 1, 110), (3, 20, 3, 2, 111), (5, 92, 3, 2, 112), (3, 24, 3, 3, 113), (5, 109, 3, 3, 114), (1, 11, 1, 0, 134), (1, 26, 1, 1, 135), (5, 133, 1, 1, 136), (1, 18, 1, 2, 137), (0, 9, 0, 0, 151), (0, 15, 0, 1, 152), (0, 18, 0, 2, 153), (0, 27, 0, 3, 154), (0, 37, 0, 4, 155), (2, 31, 2, 0, 189), (4, 58, 2, 0, 190), (5, 160, 2, 0, 191), (2, 35, 2, 1, 192), (4, 65, 2, 1, 193), (5, 209, 2, 1, 194), (2, 38, 2, 2, 195), (4, 68, 2, 2, 196), (5, 216, 2, 2, 197), (2, 41, 2, 3, 198), (4, 71, 2, 3, 199), (5, 303, 2, 3, 200), (2, 9, 2, 4, 201), (4, 77, 2, 4, 202), (5, 82, 2, 4, 203), (2, 15, 2, 5, 204), (4, 80, 2, 5, 205), (5, 86, 2, 5, 206), (2, 18, 2, 6, 207), (4, 83, 2, 6, 208), (5, 89, 2, 6, 209), (2, 21, 2, 7, 210), (5, 140, 2, 7, 211), (5, 10, 5, 0, 229), (5, 19, 5, 1, 230), (5, 26, 5, 2, 231), (5, 30, 5, 3, 232), (5, 34, 5, 4, 233), (5, 41, 5, 5, 234), (5, 48, 5, 6, 235), (5, 52, 5, 7, 236), (5, 251, 5, 8, 237), (5, 248, 5, 9, 238), (5, 280, 5, 10, 239), (6, 53, 6, 0, 703), (6, 186, 6, 1, 704), (6, 7, 6, 2, 705), (6, 61, 6, 3, 706), (6, 64, 6, 4, 707), (6, 74, 6, 5, 708), (6, 71, 6, 6, 709), (6, 77, 6, 7, 710), (6, 84, 6, 8, 711), (6, 13, 6, 9, 712), (6, 98, 6, 10, 713), (6, 16, 6, 11, 714), (6, 19, 6, 12, 715), (6, 22, 6, 13, 716), (6, 25, 6, 14, 717), (6, 28, 6, 15, 718), (6, 31, 6, 16, 719), (6, 35, 6, 17, 720), (6, 115, 6, 18, 721), (6, 38, 6, 19, 722), (6, 112, 6, 20, 723), (6, 41, 6, 21, 724), (6, 44, 6, 22, 725)]
/-- calls: class of the code, pool index; method, arguments, kind (0 static, 1 virtual, 2 constructor, 3 constructor of a nest mate, 4 that of Object, 5 arraycopy), places of the words -/
def sm_ct : List (Nat × Nat × Nat × Nat × Nat × Nat × Nat × Nat × Nat) := [(5, 1, 999, 0, 4, 66, 67, 68, 0),
  (5, 9, 40, 0, 3, 71, 72, 0, 50),
  (5, 18, 21, 0, 3, 101, 102, 0, 51),
  (5, 25, 9, 0, 2, 127, 128, 0, 52),
  (5, 40, 0, 0, 3, 147, 148, 0, 53),
  (5, 47, 13, 0, 2, 170, 171, 0, 54),
  (4, 3, 999, 0, 4, 74, 67, 68, 0),
  (3, 3, 999, 0, 4, 104, 67, 68, 0),
  (1, 3, 999, 0, 4, 130, 67, 68, 0),
  (1, 17, 21, 0, 3, 133, 102, 0, 51),
  (0, 3, 999, 0, 4, 150, 67, 68, 0),
  (2, 3, 999, 0, 4, 173, 67, 68, 0),
  (2, 25, 14, 0, 1, 174, 175, 176, 54),
  (2, 28, 15, 0, 1, 181, 182, 183, 54),
  (2, 44, 172, 2, 0, 178, 179, 0, 55),
  (2, 50, 16, 3, 1, 185, 186, 187, 54),
  (5, 55, 41, 1, 1, 267, 268, 269, 50),
  (5, 63, 42, 1, 1, 279, 280, 281, 50),
  (5, 67, 22, 0, 1, 320, 321, 322, 51),
  (5, 70, 10, 0, 1, 329, 330, 331, 52),
  (5, 73, 55, 0, 1, 333, 335, 8, 49),
  (5, 76, 56, 0, 1, 337, 339, 9, 49),
  (4, 19, 14, 0, 1, 283, 175, 176, 54),
  (4, 40, 43, 0, 1, 284, 286, 0, 50),
  (4, 43, 44, 2, 1, 288, 290, 1, 50),
  (4, 47, 15, 0, 1, 319, 182, 183, 54),
  (4, 50, 45, 1, 1, 292, 294, 2, 50),
  (4, 54, 47, 2, 1, 300, 302, 4, 50),
  (4, 61, 49, 1, 1, 311, 313, 6, 50),
  (4, 74, 50, 0, 1, 315, 317, 7, 50),
  (4, 86, 46, 1, 1, 296, 298, 3, 50),
  (4, 90, 48, 1, 1, 304, 306, 5, 50),
  (4, 94, 999, 2, 7, 308, 309, 310, 57),
  (3, 33, 23, 0, 1, 324, 325, 326, 51),
  (3, 36, 172, 2, 0, 328, 179, 0, 55),
  (5, 79, 58, 1, 0, 345, 346, 0, 49),
  (5, 95, 24, 2, 1, 348, 349, 350, 51),
  (5, 103, 171, 1, 0, 352, 353, 0, 58),
  (5, 112, 60, 2, 1, 362, 364, 10, 49),
  (5, 157, 17, 1, 1, 366, 367, 368, 54),
  (5, 120, 25, 2, 1, 374, 375, 376, 51),
  (5, 123, 26, 0, 1, 382, 383, 384, 51),
  (5, 127, 28, 0, 1, 390, 391, 392, 51),
  (5, 130, 63, 0, 1, 398, 400, 11, 49),
  (3, 62, 27, 2, 1, 386, 387, 388, 51),
  (3, 48, 999, 2, 7, 394, 309, 310, 57),
  (3, 56, 999, 2, 6, 395, 396, 397, 57),
  (5, 136, 11, 1, 1, 406, 407, 408, 52),
  (5, 143, 30, 2, 1, 418, 419, 420, 51),
  (1, 22, 29, 1, 1, 410, 411, 412, 51),
  (1, 29, 999, 2, 7, 417, 309, 310, 57),
  (3, 27, 999, 5, 5, 414, 415, 416, 59),
  (3, 42, 171, 1, 0, 422, 353, 0, 58),
  (5, 147, 31, 1, 1, 432, 433, 434, 51),
  (5, 151, 32, 0, 1, 436, 437, 438, 51),
  (3, 59, 24, 2, 1, 440, 349, 350, 51),
  (5, 154, 23, 0, 1, 445, 325, 326, 51),
  (5, 163, 33, 2, 1, 450, 451, 452, 51),
  (5, 167, 12, 1, 1, 462, 463, 464, 52),
  (5, 171, 18, 1, 1, 470, 471, 472, 54),
  (5, 174, 73, 2, 0, 479, 480, 0, 49),
  (5, 178, 75, 1, 0, 486, 487, 0, 49),
  (5, 181, 78, 1, 0, 497, 498, 0, 49),
  (5, 184, 34, 1, 1, 500, 501, 502, 51),
  (5, 188, 36, 1, 1, 508, 509, 510, 51),
  (3, 66, 35, 2, 1, 504, 506, 12, 51),
  (3, 69, 37, 2, 1, 512, 514, 13, 51),
  (5, 191, 1, 2, 1, 520, 521, 522, 53),
  (5, 195, 4, 0, 1, 544, 545, 546, 53),
  (5, 198, 5, 0, 1, 556, 549, 550, 53),
  (5, 201, 7, 3, 1, 557, 558, 559, 53),
  (0, 21, 172, 2, 0, 524, 179, 0, 55),
  (0, 31, 38, 0, 1, 525, 526, 527, 51),
  (0, 40, 39, 0, 1, 529, 530, 531, 51),
  (0, 43, 27, 2, 1, 533, 387, 388, 51),
  (0, 47, 2, 3, 1, 534, 536, 14, 53),
  (0, 51, 3, 3, 1, 539, 541, 15, 53),
  (0, 55, 999, 2, 6, 543, 396, 397, 57),
  (0, 65, 5, 0, 1, 548, 549, 550, 53),
  (0, 62, 6, 0, 1, 552, 554, 16, 53),
  (0, 68, 8, 3, 1, 561, 563, 17, 53),
  (0, 72, 999, 2, 7, 565, 309, 310, 57),
  (5, 205, 81, 4, 1, 570, 572, 18, 49),
  (5, 212, 19, 3, 1, 574, 575, 576, 54),
  (5, 219, 20, 2, 1, 579, 580, 581, 54),
  (2, 56, 999, 2, 6, 578, 396, 397, 57),
  (5, 222, 83, 1, 0, 587, 588, 0, 49),
  (5, 225, 999, 2, 7, 590, 309, 310, 57),
  (5, 230, 84, 3, 0, 591, 592, 0, 49),
  (5, 233, 86, 2, 0, 597, 598, 0, 49),
  (5, 236, 87, 3, 0, 600, 601, 0, 49),
  (5, 239, 85, 2, 0, 594, 595, 0, 49),
  (5, 242, 88, 2, 0, 603, 604, 0, 49),
  (5, 245, 999, 2, 6, 606, 396, 397, 57),
  (5, 255, 16, 3, 1, 627, 186, 187, 54),
  (5, 262, 95, 1, 1, 634, 636, 19, 49),
  (5, 265, 96, 1, 1, 638, 640, 20, 49),
  (5, 268, 97, 1, 1, 643, 645, 21, 49),
  (5, 271, 98, 1, 1, 648, 650, 22, 49),
  (5, 274, 99, 1, 1, 653, 655, 23, 49),
  (5, 277, 100, 1, 1, 664, 666, 24, 49),
  (5, 291, 170, 1, 0, 658, 659, 0, 60),
  (5, 297, 102, 1, 0, 673, 674, 0, 49),
  (5, 300, 29, 1, 1, 676, 411, 412, 51),
  (6, 1, 999, 0, 4, 694, 67, 68, 0),
  (6, 47, 107, 0, 1, 695, 697, 25, 56),
  (6, 50, 108, 0, 1, 699, 701, 26, 56),
  (6, 57, 110, 3, 0, 777, 778, 0, 56),
  (6, 91, 113, 0, 1, 788, 790, 27, 56),
  (6, 87, 116, 0, 1, 799, 801, 29, 56),
  (6, 105, 117, 1, 0, 803, 804, 0, 56),
  (6, 94, 118, 1, 1, 806, 808, 30, 56),
  (6, 108, 119, 1, 1, 810, 812, 31, 56),
  (6, 67, 114, 1, 1, 792, 794, 28, 56),
  (6, 80, 115, 1, 0, 796, 797, 0, 56),
  (6, 101, 120, 2, 1, 814, 816, 32, 56),
  (6, 122, 122, 1, 0, 822, 823, 0, 56),
  (6, 125, 123, 2, 1, 825, 827, 33, 56),
  (6, 128, 124, 1, 1, 829, 831, 34, 56),
  (6, 131, 126, 1, 1, 837, 839, 35, 56),
  (6, 134, 129, 1, 1, 849, 851, 36, 56),
  (6, 137, 131, 0, 1, 857, 859, 38, 56),
  (6, 118, 130, 2, 1, 853, 855, 37, 56),
  (6, 141, 133, 0, 1, 865, 867, 39, 56),
  (6, 144, 134, 4, 1, 869, 871, 40, 56),
  (6, 148, 137, 0, 1, 881, 883, 41, 56),
  (6, 154, 143, 1, 1, 905, 907, 42, 56),
  (6, 151, 144, 2, 1, 909, 911, 43, 56),
  (6, 159, 150, 1, 1, 933, 935, 44, 56),
  (6, 162, 151, 2, 1, 937, 939, 45, 56),
  (6, 166, 152, 1, 1, 943, 945, 46, 56),
  (6, 169, 154, 2, 1, 951, 953, 47, 56),
  (6, 175, 156, 1, 0, 959, 960, 0, 56),
  (6, 178, 157, 2, 0, 962, 963, 0, 56),
  (6, 181, 158, 3, 0, 965, 966, 0, 56),
  (6, 172, 159, 2, 0, 968, 969, 0, 56),
  (7, 9, 51, 0, 2, 63, 64, 0, 49),
  (7, 12, 106, 0, 2, 691, 692, 0, 56),
  (7, 13, 52, 1, 1, 263, 264, 265, 49),
  (7, 17, 109, 1, 1, 773, 774, 775, 56),
  (7, 18, 53, 0, 1, 271, 272, 273, 49),
  (7, 22, 111, 0, 1, 780, 781, 782, 56),
  (7, 23, 54, 0, 1, 275, 276, 277, 49),
  (7, 26, 112, 0, 1, 784, 785, 786, 56),
  (7, 27, 57, 2, 1, 341, 342, 343, 49),
  (7, 31, 121, 2, 1, 818, 819, 820, 56),
  (7, 32, 59, 2, 1, 358, 359, 360, 49),
  (7, 35, 125, 2, 1, 833, 834, 835, 56),
  (7, 36, 61, 2, 1, 370, 371, 372, 49),
  (7, 39, 127, 2, 1, 841, 842, 843, 56),
  (7, 40, 62, 1, 1, 378, 379, 380, 49),
  (7, 43, 128, 1, 1, 845, 846, 847, 56),
  (7, 44, 64, 2, 1, 402, 403, 404, 49),
  (7, 47, 132, 2, 1, 861, 862, 863, 56),
  (7, 48, 65, 2, 1, 424, 425, 426, 49),
  (7, 51, 135, 2, 1, 873, 874, 875, 56),
  (7, 52, 66, 1, 1, 428, 429, 430, 49),
  (7, 55, 136, 1, 1, 877, 878, 879, 56),
  (7, 56, 67, 0, 1, 441, 442, 443, 49),
  (7, 59, 138, 0, 1, 885, 886, 887, 56),
  (7, 60, 68, 1, 1, 446, 447, 448, 49),
  (7, 63, 139, 1, 1, 889, 890, 891, 56),
  (7, 64, 69, 2, 1, 454, 455, 456, 49),
  (7, 67, 140, 2, 1, 893, 894, 895, 56),
  (7, 68, 70, 0, 1, 458, 459, 460, 49),
  (7, 71, 141, 0, 1, 897, 898, 899, 56),
  (7, 72, 71, 1, 1, 466, 467, 468, 49),
  (7, 75, 142, 1, 1, 901, 902, 903, 56),
  (7, 76, 72, 1, 1, 475, 476, 477, 49),
  (7, 79, 145, 1, 1, 913, 914, 915, 56),
  (7, 80, 74, 2, 1, 482, 483, 484, 49),
  (7, 83, 146, 2, 1, 917, 918, 919, 56),
  (7, 84, 76, 2, 1, 489, 490, 491, 49),
  (7, 87, 147, 2, 1, 921, 922, 923, 56),
  (7, 88, 77, 2, 1, 493, 494, 495, 49),
  (7, 91, 148, 2, 1, 925, 926, 927, 56),
  (7, 92, 79, 2, 1, 516, 517, 518, 49),
  (7, 95, 149, 2, 1, 929, 930, 931, 56),
  (7, 96, 80, 4, 1, 566, 567, 568, 49),
  (7, 100, 153, 4, 1, 947, 948, 949, 56),
  (7, 101, 82, 4, 1, 583, 584, 585, 49),
  (7, 104, 155, 4, 1, 955, 956, 957, 56),
  (7, 105, 89, 3, 1, 607, 608, 609, 49),
  (7, 109, 160, 3, 1, 971, 972, 973, 56),
  (7, 110, 90, 1, 1, 611, 612, 613, 49),
  (7, 113, 161, 1, 1, 975, 976, 977, 56),
  (7, 114, 91, 0, 1, 615, 616, 617, 49),
  (7, 117, 162, 0, 1, 979, 980, 981, 56),
  (7, 118, 92, 0, 1, 619, 620, 621, 49),
  (7, 121, 163, 0, 1, 983, 984, 985, 56),
  (7, 122, 93, 1, 1, 623, 624, 625, 49),
  (7, 125, 164, 1, 1, 987, 988, 989, 56),
  (7, 126, 94, 2, 1, 629, 630, 631, 49),
  (7, 129, 165, 2, 1, 991, 992, 993, 56),
  (7, 130, 101, 1, 1, 669, 670, 671, 49),
  (7, 133, 166, 1, 1, 1001, 1002, 1003, 56),
  (7, 134, 103, 1, 1, 677, 678, 679, 49),
  (7, 137, 167, 1, 1, 1005, 1006, 1007, 56),
  (7, 138, 104, 1, 1, 681, 682, 683, 49),
  (7, 141, 168, 1, 1, 1009, 1010, 1011, 56),
  (7, 142, 105, 0, 1, 685, 686, 687, 49),
  (7, 146, 169, 0, 1, 1013, 1014, 1015, 56)]
def sm_nt : List (Nat × Nat × Nat × Nat × Nat × Nat) := [(7, 7, 5, 61, 62, 49), (5, 7, 4, 69, 70, 50), (5, 16, 3, 99, 100, 51), (5, 23, 1, 125, 126, 52), (1, 9, 3, 131, 100, 51), (5, 38, 0, 145, 146, 53), (5, 45, 2, 168, 169, 54), (7, 10, 6, 689, 690, 56)]
def sm_at : List (Nat × Nat × Nat) := [(5, 16, 99), (1, 9, 131)]
def sm_gt : List (Nat × Nat × Nat) := [(3, 9, 105)]
def sm_kt : List (Nat × Nat × Int32 × Nat) := [(0, 61, 1000003, 538), (5, 261, -1000000, 633), (9, 265, 1431655765, 661), (9, 266, 858993459, 662), (9, 267, 252645135, 663), (6, 157, 1000000, 941), (6, 158, 1000003, 942), (6, 185, -1000000, 995)]
def sm_jt : List (Nat × Nat × Int64 × Nat) := [(10, 314, 6148914691236517205, 355), (10, 316, 3689348814741910323, 356), (10, 318, 1085102592571150095, 357), (3, 54, -1, 423), (2, 54, -1, 474), (5, 259, -1, 628), (5, 283, 10, 642), (5, 285, 100, 647), (5, 287, 1000, 652), (5, 289, 10000, 657), (5, 295, 100000, 668), (6, 190, 11, 996), (6, 192, 101, 997), (6, 194, 1011, 998), (6, 196, 10101, 999), (6, 198, 100001, 1000)]
theorem sm_look_mem {α : Type} : ∀ {l : List (Nat × Nat × α)} {a b : Nat} {x : α}, sm_look l a b = some x → (a, b, x) ∈ l
  | [], _, _, _, h => by cases h
  | (o, i, y) :: l, a, b, x, h => by
    unfold sm_look at h
    split at h
    next hc => obtain ⟨rfl, rfl⟩ := hc; cases h; exact List.mem_cons_self
    next => exact List.mem_cons_of_mem _ (sm_look_mem h)
def sm_tb : List Cond := lw_tbl.filter goodWord
theorem sm_in {i : Nat} {w : Cond} (h : lw_tbl[i]? = some w) (g : goodWord w = true) : w ∈ sm_tb := List.mem_filter.mpr ⟨List.mem_of_getElem? h, g⟩
def sm_oip : Nat := 68
theorem sm_oiw : lw_tbl[sm_oip]? = some (.code objectInit ⟨#[0xb1]⟩ 1 none) := rfl
def sm_maxp : Nat := 397
def sm_minp : Nat := 310
set_option maxRecDepth 100000 in
theorem sm_maxw : lw_tbl[sm_maxp]? = some (.code Lib.Math.max.name Lib.Math.max.code 2 (some .int)) := rfl
set_option maxRecDepth 100000 in
theorem sm_minw : lw_tbl[sm_minp]? = some (.code Lib.Math.min.name Lib.Math.min.code 2 (some .int)) := rfl
def sm_okM (r : sm_Row) : Bool := decide (r.1.cls = sm_cn r.2.2.2.2.1) && (Jvm.plainName r.1.cls && (decide (r.2.2.1 ≤ 15) && decide (r.1.cls ≠ "java/lang/invoke/MethodHandle" ∧ r.1.cls ≠ "java/lang/invoke/VarHandle")))
def sm_wF (r : Nat × Nat × Nat × Nat × Nat) : Cond := .fieldLink (sm_cn r.1) r.2.1 (sm_T r.2.2.1 r.2.2.2.1).1 (sm_T r.2.2.1 r.2.2.2.1).2.1 (sm_T r.2.2.1 r.2.2.2.1).2.2.1
def sm_okF (r : Nat × Nat × Nat × Nat × Nat) : Bool := decide (lw_tbl[r.2.2.2.2]? = some (sm_wF r)) && (decide (r.2.2.1 < 7) && decide (r.2.2.2.1 < sm_N r.2.2.1))
def sm_okC (r : Nat × Nat × Nat × Nat × Nat × Nat × Nat × Nat × Nat) : Bool := match r with
  | (o, i, y, n, k, p1, p2, p3, p4) => match k with
    | 0 => decide (lw_tbl[p1]? = some (.methodLink (sm_cn o) i (sm_nm y))) && (decide (lw_tbl[p2]? = some (.static (sm_nm y))) && (decide (lw_tbl[p4]? = some (.initialized (sm_nm y).cls)) && decide ((parseMethodDescriptor (sm_nm y).desc).map (fun d => d.parameters.length) = some n)))
    | 1 => decide (lw_tbl[p1]? = some (.methodLink (sm_cn o) i (sm_nm y))) && (decide (lw_tbl[p2]? = some (.instanceMethod (sm_nm y))) && (decide (lw_tbl[p3]? = some (.selects (sm_nm y).cls (sm_nm y) (sm_nm y))) && (decide (lw_tbl[p4]? = some (.initialized (sm_nm y).cls)) && (decide (sm_oc y < 7) && decide ((parseMethodDescriptor (sm_nm y).desc).map (fun d => d.parameters.length) = some n)))))
    | 2 => decide (lw_tbl[p1]? = some (.methodLink (sm_cn o) i (sm_nm y))) && (decide (lw_tbl[p2]? = some (.instanceMethod (sm_nm y))) && (decide (lw_tbl[p4]? = some (.initialized (sm_nm y).cls)) && (decide ((sm_nm y).name = "<init>") && (decide (sm_rt y = none) && decide ((parseMethodDescriptor (sm_nm y).desc).map (fun d => d.parameters.length) = some n)))))
    | 3 => decide (lw_tbl[p1]? = some (.methodLinkNest (sm_cn o) i (sm_nm y) "TwoPrints")) && (decide (lw_tbl[p2]? = some (.instanceMethod (sm_nm y))) && (decide (lw_tbl[p4]? = some (.initialized (sm_nm y).cls)) && (decide ((sm_nm y).name = "<init>") && (decide (sm_rt y = none) && decide ((parseMethodDescriptor (sm_nm y).desc).map (fun d => d.parameters.length) = some n)))))
    | 4 => decide (lw_tbl[p1]? = some (.methodLink (sm_cn o) i objectInit)) && (decide (lw_tbl[p2]? = some (.instanceMethod objectInit)) && decide (p3 = sm_oip))
    | 5 => decide (lw_tbl[p1]? = some (.methodLink (sm_cn o) i arraycopyName)) && (decide (lw_tbl[p2]? = some (.static arraycopyName)) && (decide (lw_tbl[p3]? = some (.native arraycopyName)) && decide (lw_tbl[p4]? = some (.initialized "java/lang/System"))))
    | 6 => decide (lw_tbl[p1]? = some (.methodLink (sm_cn o) i Lib.Math.max.name)) && (decide (lw_tbl[p2]? = some (.static Lib.Math.max.name)) && (decide (p3 = sm_maxp) && decide (lw_tbl[p4]? = some (.initialized "java/lang/Math"))))
    | 7 => decide (lw_tbl[p1]? = some (.methodLink (sm_cn o) i Lib.Math.min.name)) && (decide (lw_tbl[p2]? = some (.static Lib.Math.min.name)) && (decide (p3 = sm_minp) && decide (lw_tbl[p4]? = some (.initialized "java/lang/Math"))))
    | _ => false
def sm_okN (r : Nat × Nat × Nat × Nat × Nat × Nat) : Bool := match r with
  | (o, i, ci, p1, p2, p3) => decide (lw_tbl[p1]? = some (.classLink (sm_cn o) i (sm_cn ci))) && (decide (lw_tbl[p2]? = some (.instantiable (sm_cn ci) (sm_N ci))) && (decide (lw_tbl[p3]? = some (.initialized (sm_cn ci))) && decide (ci < 7)))
def sm_okA (r : Nat × Nat × Nat) : Bool := decide (lw_tbl[r.2.2]? = some (.classLink (sm_cn r.1) r.2.1 "TwoPrints$Prints"))
def sm_okG (r : Nat × Nat × Nat) : Bool := decide (lw_tbl[r.2.2]? = some (.classLink (sm_cn r.1) r.2.1 "[[I"))
def sm_okK (r : Nat × Nat × Int32 × Nat) : Bool := decide (lw_tbl[r.2.2.2]? = some (.constant (sm_cn r.1) r.2.1 r.2.2.1))
def sm_okJ (r : Nat × Nat × Int64 × Nat) : Bool := decide (lw_tbl[r.2.2.2]? = some (.constantLong (sm_cn r.1) r.2.1 r.2.2.1))
set_option maxRecDepth 100000 in
theorem sm_all_M : (sm_mt.take 173).all sm_okM = true := by decide +kernel
set_option maxRecDepth 100000 in
theorem sm_all_F : sm_ft.all sm_okF = true := by decide +kernel
set_option maxRecDepth 100000 in
theorem sm_all_C : sm_ct.all sm_okC = true := by decide +kernel
set_option maxRecDepth 100000 in
theorem sm_all_N : sm_nt.all sm_okN = true := by decide +kernel
set_option maxRecDepth 100000 in
theorem sm_all_A : sm_at.all sm_okA = true := by decide +kernel
set_option maxRecDepth 100000 in
theorem sm_all_G : sm_gt.all sm_okG = true := by decide +kernel
set_option maxRecDepth 100000 in
theorem sm_all_K : sm_kt.all sm_okK = true := by decide +kernel
set_option maxRecDepth 100000 in
theorem sm_all_J : sm_jt.all sm_okJ = true := by decide +kernel
set_option maxRecDepth 100000 in
theorem sm_fw0 : u_ws (sm_cn 0) (sm_T 0) (sm_N 0) = (sm_fp 0).filterMap (fun i => lw_tbl[i]?) := by decide +kernel
theorem sm_fg0 : (u_ws (sm_cn 0) (sm_T 0) (sm_N 0)).all goodWord = true := by decide +kernel
theorem sm_nm0 : ∀ a, a < sm_N 0 → ∀ b, b < sm_N 0 → a ≠ b → (sm_T 0 a).2.1 ≠ (sm_T 0 b).2.1 := by decide +kernel
theorem sm_tk0 : ∀ k, k < sm_N 0 → parseFieldDescriptor (sm_T 0 k).2.2.1 = some (sm_ty 0 k) := by decide +kernel
set_option maxRecDepth 100000 in
theorem sm_fw1 : u_ws (sm_cn 1) (sm_T 1) (sm_N 1) = (sm_fp 1).filterMap (fun i => lw_tbl[i]?) := by decide +kernel
theorem sm_fg1 : (u_ws (sm_cn 1) (sm_T 1) (sm_N 1)).all goodWord = true := by decide +kernel
theorem sm_nm1 : ∀ a, a < sm_N 1 → ∀ b, b < sm_N 1 → a ≠ b → (sm_T 1 a).2.1 ≠ (sm_T 1 b).2.1 := by decide +kernel
theorem sm_tk1 : ∀ k, k < sm_N 1 → parseFieldDescriptor (sm_T 1 k).2.2.1 = some (sm_ty 1 k) := by decide +kernel
set_option maxRecDepth 100000 in
theorem sm_fw2 : u_ws (sm_cn 2) (sm_T 2) (sm_N 2) = (sm_fp 2).filterMap (fun i => lw_tbl[i]?) := by decide +kernel
theorem sm_fg2 : (u_ws (sm_cn 2) (sm_T 2) (sm_N 2)).all goodWord = true := by decide +kernel
theorem sm_nm2 : ∀ a, a < sm_N 2 → ∀ b, b < sm_N 2 → a ≠ b → (sm_T 2 a).2.1 ≠ (sm_T 2 b).2.1 := by decide +kernel
theorem sm_tk2 : ∀ k, k < sm_N 2 → parseFieldDescriptor (sm_T 2 k).2.2.1 = some (sm_ty 2 k) := by decide +kernel
set_option maxRecDepth 100000 in
theorem sm_fw3 : u_ws (sm_cn 3) (sm_T 3) (sm_N 3) = (sm_fp 3).filterMap (fun i => lw_tbl[i]?) := by decide +kernel
theorem sm_fg3 : (u_ws (sm_cn 3) (sm_T 3) (sm_N 3)).all goodWord = true := by decide +kernel
theorem sm_nm3 : ∀ a, a < sm_N 3 → ∀ b, b < sm_N 3 → a ≠ b → (sm_T 3 a).2.1 ≠ (sm_T 3 b).2.1 := by decide +kernel
theorem sm_tk3 : ∀ k, k < sm_N 3 → parseFieldDescriptor (sm_T 3 k).2.2.1 = some (sm_ty 3 k) := by decide +kernel
set_option maxRecDepth 100000 in
theorem sm_fw4 : u_ws (sm_cn 4) (sm_T 4) (sm_N 4) = (sm_fp 4).filterMap (fun i => lw_tbl[i]?) := by decide +kernel
theorem sm_fg4 : (u_ws (sm_cn 4) (sm_T 4) (sm_N 4)).all goodWord = true := by decide +kernel
theorem sm_nm4 : ∀ a, a < sm_N 4 → ∀ b, b < sm_N 4 → a ≠ b → (sm_T 4 a).2.1 ≠ (sm_T 4 b).2.1 := by decide +kernel
theorem sm_tk4 : ∀ k, k < sm_N 4 → parseFieldDescriptor (sm_T 4 k).2.2.1 = some (sm_ty 4 k) := by decide +kernel
set_option maxRecDepth 100000 in
theorem sm_fw5 : u_ws (sm_cn 5) (sm_T 5) (sm_N 5) = (sm_fp 5).filterMap (fun i => lw_tbl[i]?) := by decide +kernel
theorem sm_fg5 : (u_ws (sm_cn 5) (sm_T 5) (sm_N 5)).all goodWord = true := by decide +kernel
theorem sm_nm5 : ∀ a, a < sm_N 5 → ∀ b, b < sm_N 5 → a ≠ b → (sm_T 5 a).2.1 ≠ (sm_T 5 b).2.1 := by decide +kernel
theorem sm_tk5 : ∀ k, k < sm_N 5 → parseFieldDescriptor (sm_T 5 k).2.2.1 = some (sm_ty 5 k) := by decide +kernel
set_option maxRecDepth 100000 in
theorem sm_fw6 : u_ws (sm_cn 6) (sm_T 6) (sm_N 6) = (sm_fp 6).filterMap (fun i => lw_tbl[i]?) := by decide +kernel
theorem sm_fg6 : (u_ws (sm_cn 6) (sm_T 6) (sm_N 6)).all goodWord = true := by decide +kernel
theorem sm_nm6 : ∀ a, a < sm_N 6 → ∀ b, b < sm_N 6 → a ≠ b → (sm_T 6 a).2.1 ≠ (sm_T 6 b).2.1 := by decide +kernel
theorem sm_tk6 : ∀ k, k < sm_N 6 → parseFieldDescriptor (sm_T 6 k).2.2.1 = some (sm_ty 6 k) := by decide +kernel
set_option maxRecDepth 100000 in
theorem sm_w_int : lw_tbl[98]? = some (.arrayClass .int) := by decide +kernel
set_option maxRecDepth 100000 in
theorem sm_w_long : lw_tbl[124]? = some (.arrayClass .long) := by decide +kernel
set_option maxRecDepth 100000 in
theorem sm_w_bool : lw_tbl[167]? = some (.arrayClass .boolean) := by decide +kernel
set_option maxRecDepth 100000 in
theorem sm_w_g : lw_tbl[106]? = some (.arrayOver (.array .int)) := by decide +kernel
set_option maxRecDepth 100000 in
theorem sm_w_q : lw_tbl[132]? = some (.arrayOver (.object "TwoPrints$Prints")) := by decide +kernel
set_option maxRecDepth 100000 in
theorem sm_c0 : lw_tbl[149]? = some (.code ⟨"TwoPrints$ChildsWay", "<init>", "()V"⟩ prog_2_method_1_code 1 none) := rfl
set_option maxRecDepth 100000 in
theorem sm_c1 : lw_tbl[523]? = some (.code ⟨"TwoPrints$ChildsWay", "countBack", "(LTwoPrints$Prints;I)V"⟩ prog_2_method_2_code 5 none) := rfl
set_option maxRecDepth 100000 in
theorem sm_c2 : lw_tbl[537]? = some (.code ⟨"TwoPrints$ChildsWay", "reach", "(III)V"⟩ prog_2_method_4_code 4 none) := rfl
set_option maxRecDepth 100000 in
theorem sm_c3 : lw_tbl[542]? = some (.code ⟨"TwoPrints$ChildsWay", "reachThoseBefore", "(LTwoPrints$Prints;II)V"⟩ prog_2_method_3_code 7 none) := rfl
set_option maxRecDepth 100000 in
theorem sm_c4 : lw_tbl[547]? = some (.code ⟨"TwoPrints$ChildsWay", "howManyRows", "()I"⟩ prog_2_method_7_code 5 (some .int)) := rfl
set_option maxRecDepth 100000 in
theorem sm_c5 : lw_tbl[551]? = some (.code ⟨"TwoPrints$ChildsWay", "fewest", "()I"⟩ prog_2_method_5_code 2 (some .int)) := rfl
set_option maxRecDepth 100000 in
theorem sm_c6 : lw_tbl[555]? = some (.code ⟨"TwoPrints$ChildsWay", "firstPrint", "()I"⟩ prog_2_method_6_code 5 (some .int)) := rfl
set_option maxRecDepth 100000 in
theorem sm_c7 : lw_tbl[560]? = some (.code ⟨"TwoPrints$ChildsWay", "printOfFirstRow", "(LTwoPrints$Prints;II)I"⟩ prog_2_method_8_code 6 (some .int)) := rfl
set_option maxRecDepth 100000 in
theorem sm_c8 : lw_tbl[564]? = some (.code ⟨"TwoPrints$ChildsWay", "nextOfFirstRow", "(LTwoPrints$Prints;II)I"⟩ prog_2_method_9_code 9 (some .int)) := rfl
set_option maxRecDepth 100000 in
theorem sm_c9 : lw_tbl[129]? = some (.code ⟨"TwoPrints$Past", "<init>", "()V"⟩ prog_3_method_1_code 2 none) := rfl
set_option maxRecDepth 100000 in
theorem sm_c10 : lw_tbl[332]? = some (.code ⟨"TwoPrints$Past", "loseAll", "()V"⟩ prog_3_method_4_code 1 none) := rfl
set_option maxRecDepth 100000 in
theorem sm_c11 : lw_tbl[409]? = some (.code ⟨"TwoPrints$Past", "remember", "(LTwoPrints$Prints;)V"⟩ prog_3_method_2_code 2 none) := rfl
set_option maxRecDepth 100000 in
theorem sm_c12 : lw_tbl[465]? = some (.code ⟨"TwoPrints$Past", "recallInto", "(LTwoPrints$Prints;)Z"⟩ prog_3_method_3_code 2 (some .boolean)) := rfl
set_option maxRecDepth 100000 in
theorem sm_c13 : lw_tbl[172]? = some (.code ⟨"TwoPrints$Path", "<init>", "()V"⟩ prog_4_method_1_code 1 none) := rfl
set_option maxRecDepth 100000 in
theorem sm_c14 : lw_tbl[177]? = some (.code ⟨"TwoPrints$Path", "asAtFirst", "()V"⟩ prog_4_method_2_code 1 none) := rfl
set_option maxRecDepth 100000 in
theorem sm_c15 : lw_tbl[184]? = some (.code ⟨"TwoPrints$Path", "layTracks", "()V"⟩ prog_4_method_3_code 2 none) := rfl
set_option maxRecDepth 100000 in
theorem sm_c16 : lw_tbl[188]? = some (.code ⟨"TwoPrints$Path", "trackOf", "(III)J"⟩ prog_4_method_4_code 8 (some .long)) := rfl
set_option maxRecDepth 100000 in
theorem sm_c17 : lw_tbl[369]? = some (.code ⟨"TwoPrints$Path", "hasFoot", "(I)Z"⟩ prog_4_method_5_code 2 (some .boolean)) := rfl
set_option maxRecDepth 100000 in
theorem sm_c18 : lw_tbl[473]? = some (.code ⟨"TwoPrints$Path", "tracksWith", "(J)I"⟩ prog_4_method_6_code 5 (some .int)) := rfl
set_option maxRecDepth 100000 in
theorem sm_c19 : lw_tbl[577]? = some (.code ⟨"TwoPrints$Path", "minuteAt", "(III)I"⟩ prog_4_method_7_code 5 (some .int)) := rfl
set_option maxRecDepth 100000 in
theorem sm_c20 : lw_tbl[582]? = some (.code ⟨"TwoPrints$Path", "hasTurn", "(II)Z"⟩ prog_4_method_8_code 3 (some .boolean)) := rfl
set_option maxRecDepth 100000 in
theorem sm_c21 : lw_tbl[103]? = some (.code ⟨"TwoPrints$Prints", "<init>", "()V"⟩ prog_5_method_1_code 1 none) := rfl
set_option maxRecDepth 100000 in
theorem sm_c22 : lw_tbl[323]? = some (.code ⟨"TwoPrints$Prints", "wipe", "()V"⟩ prog_5_method_3_code 1 none) := rfl
set_option maxRecDepth 100000 in
theorem sm_c23 : lw_tbl[327]? = some (.code ⟨"TwoPrints$Prints", "snowOver", "()V"⟩ prog_5_method_4_code 2 none) := rfl
set_option maxRecDepth 100000 in
theorem sm_c24 : lw_tbl[351]? = some (.code ⟨"TwoPrints$Prints", "deeperThan", "(II)I"⟩ prog_5_method_10_code 5 (some .int)) := rfl
set_option maxRecDepth 100000 in
theorem sm_c25 : lw_tbl[377]? = some (.code ⟨"TwoPrints$Prints", "hasGift", "(II)Z"⟩ prog_5_method_9_code 3 (some .boolean)) := rfl
set_option maxRecDepth 100000 in
theorem sm_c26 : lw_tbl[385]? = some (.code ⟨"TwoPrints$Prints", "feetOfBoth", "()I"⟩ prog_5_method_12_code 3 (some .int)) := rfl
set_option maxRecDepth 100000 in
theorem sm_c27 : lw_tbl[389]? = some (.code ⟨"TwoPrints$Prints", "hasPrint", "(II)Z"⟩ prog_5_method_8_code 3 (some .boolean)) := rfl
set_option maxRecDepth 100000 in
theorem sm_c28 : lw_tbl[393]? = some (.code ⟨"TwoPrints$Prints", "leastRainForPeace", "()I"⟩ prog_5_method_13_code 3 (some .int)) := rfl
set_option maxRecDepth 100000 in
theorem sm_c29 : lw_tbl[413]? = some (.code ⟨"TwoPrints$Prints", "becomes", "(LTwoPrints$Prints;)V"⟩ prog_5_method_2_code 3 none) := rfl
set_option maxRecDepth 100000 in
theorem sm_c30 : lw_tbl[421]? = some (.code ⟨"TwoPrints$Prints", "tread", "(IJ)V"⟩ prog_5_method_5_code 5 none) := rfl
set_option maxRecDepth 100000 in
theorem sm_c31 : lw_tbl[435]? = some (.code ⟨"TwoPrints$Prints", "rainOn", "(I)V"⟩ prog_5_method_6_code 4 none) := rfl
set_option maxRecDepth 100000 in
theorem sm_c32 : lw_tbl[439]? = some (.code ⟨"TwoPrints$Prints", "ofBoth", "()I"⟩ prog_5_method_11_code 1 (some .int)) := rfl
set_option maxRecDepth 100000 in
theorem sm_c33 : lw_tbl[453]? = some (.code ⟨"TwoPrints$Prints", "removePrint", "(II)V"⟩ prog_5_method_7_code 3 none) := rfl
set_option maxRecDepth 100000 in
theorem sm_c34 : lw_tbl[503]? = some (.code ⟨"TwoPrints$Prints", "countJumps", "(I)I"⟩ prog_5_method_14_code 4 (some .int)) := rfl
set_option maxRecDepth 100000 in
theorem sm_c35 : lw_tbl[507]? = some (.code ⟨"TwoPrints$Prints", "countNear", "(II)I"⟩ prog_5_method_15_code 6 (some .int)) := rfl
set_option maxRecDepth 100000 in
theorem sm_c36 : lw_tbl[511]? = some (.code ⟨"TwoPrints$Prints", "firstJump", "(I)I"⟩ prog_5_method_16_code 4 (some .int)) := rfl
set_option maxRecDepth 100000 in
theorem sm_c37 : lw_tbl[515]? = some (.code ⟨"TwoPrints$Prints", "firstFrom", "(II)I"⟩ prog_5_method_17_code 4 (some .int)) := rfl
set_option maxRecDepth 100000 in
theorem sm_c38 : lw_tbl[528]? = some (.code ⟨"TwoPrints$Prints", "lowestFoot", "()I"⟩ prog_5_method_18_code 2 (some .int)) := rfl
set_option maxRecDepth 100000 in
theorem sm_c39 : lw_tbl[532]? = some (.code ⟨"TwoPrints$Prints", "highestFoot", "()I"⟩ prog_5_method_19_code 2 (some .int)) := rfl
set_option maxRecDepth 100000 in
theorem sm_c40 : lw_tbl[73]? = some (.code ⟨"TwoPrints$Reader", "<init>", "()V"⟩ prog_6_method_1_code 1 none) := rfl
set_option maxRecDepth 100000 in
theorem sm_c41 : lw_tbl[270]? = some (.code ⟨"TwoPrints$Reader", "append", "(I)Z"⟩ prog_6_method_2_code 2 (some .boolean)) := rfl
set_option maxRecDepth 100000 in
theorem sm_c42 : lw_tbl[282]? = some (.code ⟨"TwoPrints$Reader", "readInto", "(LTwoPrints$Path;)I"⟩ prog_6_method_3_code 4 (some .int)) := rfl
set_option maxRecDepth 100000 in
theorem sm_c43 : lw_tbl[287]? = some (.code ⟨"TwoPrints$Reader", "skipBlanks", "()V"⟩ prog_6_method_10_code 2 none) := rfl
set_option maxRecDepth 100000 in
theorem sm_c44 : lw_tbl[291]? = some (.code ⟨"TwoPrints$Reader", "readItem", "(LTwoPrints$Path;Z)V"⟩ prog_6_method_4_code 3 none) := rfl
set_option maxRecDepth 100000 in
theorem sm_c45 : lw_tbl[295]? = some (.code ⟨"TwoPrints$Reader", "passLetter", "(Z)V"⟩ prog_6_method_6_code 2 none) := rfl
set_option maxRecDepth 100000 in
theorem sm_c46 : lw_tbl[299]? = some (.code ⟨"TwoPrints$Reader", "failAt", "(I)V"⟩ prog_6_method_11_code 2 none) := rfl
set_option maxRecDepth 100000 in
theorem sm_c47 : lw_tbl[303]? = some (.code ⟨"TwoPrints$Reader", "readNumber", "(II)I"⟩ prog_6_method_8_code 7 (some .int)) := rfl
set_option maxRecDepth 100000 in
theorem sm_c48 : lw_tbl[307]? = some (.code ⟨"TwoPrints$Reader", "isDigitAt", "(I)Z"⟩ prog_6_method_9_code 2 (some .boolean)) := rfl
set_option maxRecDepth 100000 in
theorem sm_c49 : lw_tbl[314]? = some (.code ⟨"TwoPrints$Reader", "readWalker", "(LTwoPrints$Path;)V"⟩ prog_6_method_5_code 3 none) := rfl
set_option maxRecDepth 100000 in
theorem sm_c50 : lw_tbl[318]? = some (.code ⟨"TwoPrints$Reader", "readEnd", "()V"⟩ prog_6_method_7_code 1 none) := rfl
set_option maxRecDepth 100000 in
theorem sm_c51 : lw_tbl[65]? = some (.code ⟨"TwoPrints", "<init>", "()V"⟩ prog_1_method_1_code 2 none) := rfl
set_option maxRecDepth 100000 in
theorem sm_c52 : lw_tbl[266]? = some (.code ⟨"TwoPrints", "type", "(I)I"⟩ prog_1_method_2_code 2 (some .int)) := rfl
set_option maxRecDepth 100000 in
theorem sm_c53 : lw_tbl[274]? = some (.code ⟨"TwoPrints", "clear", "()I"⟩ prog_1_method_3_code 2 (some .int)) := rfl
set_option maxRecDepth 100000 in
theorem sm_c54 : lw_tbl[278]? = some (.code ⟨"TwoPrints", "path", "()I"⟩ prog_1_method_4_code 3 (some .int)) := rfl
set_option maxRecDepth 100000 in
theorem sm_c55 : lw_tbl[336]? = some (.code ⟨"TwoPrints", "dropImages", "()V"⟩ prog_1_method_45_code 2 none) := rfl
set_option maxRecDepth 100000 in
theorem sm_c56 : lw_tbl[340]? = some (.code ⟨"TwoPrints", "dropFound", "()V"⟩ prog_1_method_34_code 1 none) := rfl
set_option maxRecDepth 100000 in
theorem sm_c57 : lw_tbl[344]? = some (.code ⟨"TwoPrints", "walker", "(II)I"⟩ prog_1_method_5_code 3 (some .int)) := rfl
set_option maxRecDepth 100000 in
theorem sm_c58 : lw_tbl[347]? = some (.code ⟨"TwoPrints", "isWalker", "(I)Z"⟩ prog_1_method_49_code 1 (some .boolean)) := rfl
set_option maxRecDepth 100000 in
theorem sm_c59 : lw_tbl[361]? = some (.code ⟨"TwoPrints", "depth", "(II)I"⟩ prog_1_method_6_code 3 (some .int)) := rfl
set_option maxRecDepth 100000 in
theorem sm_c60 : lw_tbl[365]? = some (.code ⟨"TwoPrints", "isPlace", "(II)Z"⟩ prog_1_method_54_code 3 (some .boolean)) := rfl
set_option maxRecDepth 100000 in
theorem sm_c61 : lw_tbl[373]? = some (.code ⟨"TwoPrints", "gift", "(II)I"⟩ prog_1_method_7_code 3 (some .int)) := rfl
set_option maxRecDepth 100000 in
theorem sm_c62 : lw_tbl[381]? = some (.code ⟨"TwoPrints", "now", "(I)I"⟩ prog_1_method_8_code 2 (some .int)) := rfl
set_option maxRecDepth 100000 in
theorem sm_c63 : lw_tbl[401]? = some (.code ⟨"TwoPrints", "owes", "()I"⟩ prog_1_method_9_code 3 (some .int)) := rfl
set_option maxRecDepth 100000 in
theorem sm_c64 : lw_tbl[405]? = some (.code ⟨"TwoPrints", "walks", "(II)I"⟩ prog_1_method_10_code 5 (some .int)) := rfl
set_option maxRecDepth 100000 in
theorem sm_c65 : lw_tbl[427]? = some (.code ⟨"TwoPrints", "gives", "(II)I"⟩ prog_1_method_11_code 4 (some .int)) := rfl
set_option maxRecDepth 100000 in
theorem sm_c66 : lw_tbl[431]? = some (.code ⟨"TwoPrints", "rains", "(I)I"⟩ prog_1_method_12_code 2 (some .int)) := rfl
set_option maxRecDepth 100000 in
theorem sm_c67 : lw_tbl[444]? = some (.code ⟨"TwoPrints", "snows", "()I"⟩ prog_1_method_13_code 2 (some .int)) := rfl
set_option maxRecDepth 100000 in
theorem sm_c68 : lw_tbl[449]? = some (.code ⟨"TwoPrints", "cows", "(I)I"⟩ prog_1_method_14_code 5 (some .int)) := rfl
set_option maxRecDepth 100000 in
theorem sm_c69 : lw_tbl[457]? = some (.code ⟨"TwoPrints", "fills", "(II)I"⟩ prog_1_method_15_code 4 (some .int)) := rfl
set_option maxRecDepth 100000 in
theorem sm_c70 : lw_tbl[461]? = some (.code ⟨"TwoPrints", "undo", "()I"⟩ prog_1_method_16_code 1 (some .int)) := rfl
set_option maxRecDepth 100000 in
theorem sm_c71 : lw_tbl[469]? = some (.code ⟨"TwoPrints", "whose", "(I)I"⟩ prog_1_method_17_code 2 (some .int)) := rfl
set_option maxRecDepth 100000 in
theorem sm_c72 : lw_tbl[478]? = some (.code ⟨"TwoPrints", "both", "(I)I"⟩ prog_1_method_18_code 4 (some .int)) := rfl
set_option maxRecDepth 100000 in
theorem sm_c73 : lw_tbl[481]? = some (.code ⟨"TwoPrints", "nthFoot", "(JI)I"⟩ prog_1_method_55_code 5 (some .int)) := rfl
set_option maxRecDepth 100000 in
theorem sm_c74 : lw_tbl[485]? = some (.code ⟨"TwoPrints", "tells", "(II)I"⟩ prog_1_method_19_code 3 (some .int)) := rfl
set_option maxRecDepth 100000 in
theorem sm_c75 : lw_tbl[488]? = some (.code ⟨"TwoPrints", "isTrack", "(I)Z"⟩ prog_1_method_50_code 1 (some .boolean)) := rfl
set_option maxRecDepth 100000 in
theorem sm_c76 : lw_tbl[492]? = some (.code ⟨"TwoPrints", "left", "(II)I"⟩ prog_1_method_20_code 3 (some .int)) := rfl
set_option maxRecDepth 100000 in
theorem sm_c77 : lw_tbl[496]? = some (.code ⟨"TwoPrints", "jumps", "(II)I"⟩ prog_1_method_21_code 3 (some .int)) := rfl
set_option maxRecDepth 100000 in
theorem sm_c78 : lw_tbl[499]? = some (.code ⟨"TwoPrints", "isJump", "(I)Z"⟩ prog_1_method_52_code 1 (some .boolean)) := rfl
set_option maxRecDepth 100000 in
theorem sm_c79 : lw_tbl[519]? = some (.code ⟨"TwoPrints", "child", "(II)I"⟩ prog_1_method_22_code 3 (some .int)) := rfl
set_option maxRecDepth 100000 in
theorem sm_c80 : lw_tbl[569]? = some (.code ⟨"TwoPrints", "go", "(IIII)I"⟩ prog_1_method_23_code 9 (some .int)) := rfl
set_option maxRecDepth 100000 in
theorem sm_c81 : lw_tbl[573]? = some (.code ⟨"TwoPrints", "shouldGo", "(IIII)Z"⟩ prog_1_method_24_code 5 (some .boolean)) := rfl
set_option maxRecDepth 100000 in
theorem sm_c82 : lw_tbl[586]? = some (.code ⟨"TwoPrints", "odds", "(IIII)I"⟩ prog_1_method_25_code 8 (some .int)) := rfl
set_option maxRecDepth 100000 in
theorem sm_c83 : lw_tbl[589]? = some (.code ⟨"TwoPrints", "isTenths", "(I)Z"⟩ prog_1_method_53_code 1 (some .boolean)) := rfl
set_option maxRecDepth 100000 in
theorem sm_c84 : lw_tbl[593]? = some (.code ⟨"TwoPrints", "chanceOf", "(III)I"⟩ prog_1_method_27_code 3 (some .int)) := rfl
set_option maxRecDepth 100000 in
theorem sm_c85 : lw_tbl[596]? = some (.code ⟨"TwoPrints", "choose", "(II)I"⟩ prog_1_method_28_code 4 (some .int)) := rfl
set_option maxRecDepth 100000 in
theorem sm_c86 : lw_tbl[599]? = some (.code ⟨"TwoPrints", "power", "(II)I"⟩ prog_1_method_29_code 4 (some .int)) := rfl
set_option maxRecDepth 100000 in
theorem sm_c87 : lw_tbl[602]? = some (.code ⟨"TwoPrints", "inLeastTerms", "(III)I"⟩ prog_1_method_30_code 4 (some .int)) := rfl
set_option maxRecDepth 100000 in
theorem sm_c88 : lw_tbl[605]? = some (.code ⟨"TwoPrints", "commonDivisor", "(II)I"⟩ prog_1_method_31_code 6 (some .int)) := rfl
set_option maxRecDepth 100000 in
theorem sm_c89 : lw_tbl[610]? = some (.code ⟨"TwoPrints", "onePath", "(III)I"⟩ prog_1_method_26_code 7 (some .int)) := rfl
set_option maxRecDepth 100000 in
theorem sm_c90 : lw_tbl[614]? = some (.code ⟨"TwoPrints", "finds", "(I)I"⟩ prog_1_method_32_code 2 (some .int)) := rfl
set_option maxRecDepth 100000 in
theorem sm_c91 : lw_tbl[618]? = some (.code ⟨"TwoPrints", "forget", "()I"⟩ prog_1_method_33_code 2 (some .int)) := rfl
set_option maxRecDepth 100000 in
theorem sm_c92 : lw_tbl[622]? = some (.code ⟨"TwoPrints", "who", "()I"⟩ prog_1_method_35_code 1 (some .int)) := rfl
set_option maxRecDepth 100000 in
theorem sm_c93 : lw_tbl[626]? = some (.code ⟨"TwoPrints", "strangers", "(I)I"⟩ prog_1_method_36_code 6 (some .int)) := rfl
set_option maxRecDepth 100000 in
theorem sm_c94 : lw_tbl[632]? = some (.code ⟨"TwoPrints", "rate", "(II)I"⟩ prog_1_method_37_code 3 (some .int)) := rfl
set_option maxRecDepth 100000 in
theorem sm_c95 : lw_tbl[637]? = some (.code ⟨"TwoPrints", "asFoot", "(I)I"⟩ prog_1_method_38_code 2 (some .int)) := rfl
set_option maxRecDepth 100000 in
theorem sm_c96 : lw_tbl[641]? = some (.code ⟨"TwoPrints", "asBoot", "(I)I"⟩ prog_1_method_39_code 2 (some .int)) := rfl
set_option maxRecDepth 100000 in
theorem sm_c97 : lw_tbl[646]? = some (.code ⟨"TwoPrints", "asChild", "(I)I"⟩ prog_1_method_40_code 2 (some .int)) := rfl
set_option maxRecDepth 100000 in
theorem sm_c98 : lw_tbl[651]? = some (.code ⟨"TwoPrints", "asLimp", "(I)I"⟩ prog_1_method_41_code 2 (some .int)) := rfl
set_option maxRecDepth 100000 in
theorem sm_c99 : lw_tbl[656]? = some (.code ⟨"TwoPrints", "asGift", "(I)I"⟩ prog_1_method_42_code 2 (some .int)) := rfl
set_option maxRecDepth 100000 in
theorem sm_c100 : lw_tbl[667]? = some (.code ⟨"TwoPrints", "asCow", "(I)I"⟩ prog_1_method_43_code 2 (some .int)) := rfl
set_option maxRecDepth 100000 in
theorem sm_c101 : lw_tbl[672]? = some (.code ⟨"TwoPrints", "keep", "(I)I"⟩ prog_1_method_44_code 2 (some .int)) := rfl
set_option maxRecDepth 100000 in
theorem sm_c102 : lw_tbl[675]? = some (.code ⟨"TwoPrints", "isImage", "(I)Z"⟩ prog_1_method_51_code 1 (some .boolean)) := rfl
set_option maxRecDepth 100000 in
theorem sm_c103 : lw_tbl[680]? = some (.code ⟨"TwoPrints", "back", "(I)I"⟩ prog_1_method_46_code 2 (some .int)) := rfl
set_option maxRecDepth 100000 in
theorem sm_c104 : lw_tbl[684]? = some (.code ⟨"TwoPrints", "count", "(I)I"⟩ prog_1_method_47_code 2 (some .int)) := rfl
set_option maxRecDepth 100000 in
theorem sm_c105 : lw_tbl[688]? = some (.code ⟨"TwoPrints", "trace", "()J"⟩ prog_1_method_48_code 1 (some .long)) := rfl
set_option maxRecDepth 100000 in
theorem sm_c106 : lw_tbl[693]? = some (.code ⟨"TwoPrintsModel", "<init>", "()V"⟩ prog_8_method_1_code 1 none) := rfl
set_option maxRecDepth 100000 in
theorem sm_c107 : lw_tbl[698]? = some (.code ⟨"TwoPrintsModel", "begins", "()V"⟩ prog_8_method_12_code 2 none) := rfl
set_option maxRecDepth 100000 in
theorem sm_c108 : lw_tbl[702]? = some (.code ⟨"TwoPrintsModel", "settles", "()V"⟩ prog_8_method_16_code 2 none) := rfl
set_option maxRecDepth 100000 in
theorem sm_c109 : lw_tbl[776]? = some (.code ⟨"TwoPrintsModel", "type", "(I)I"⟩ prog_8_method_4_code 2 (some .int)) := rfl
set_option maxRecDepth 100000 in
theorem sm_c110 : lw_tbl[779]? = some (.code ⟨"TwoPrintsModel", "in", "(III)Z"⟩ prog_8_method_3_code 3 (some .boolean)) := rfl
set_option maxRecDepth 100000 in
theorem sm_c111 : lw_tbl[783]? = some (.code ⟨"TwoPrintsModel", "clear", "()I"⟩ prog_8_method_5_code 2 (some .int)) := rfl
set_option maxRecDepth 100000 in
theorem sm_c112 : lw_tbl[787]? = some (.code ⟨"TwoPrintsModel", "path", "()I"⟩ prog_8_method_15_code 4 (some .int)) := rfl
set_option maxRecDepth 100000 in
theorem sm_c113 : lw_tbl[791]? = some (.code ⟨"TwoPrintsModel", "advances", "()V"⟩ prog_8_method_8_code 2 none) := rfl
set_option maxRecDepth 100000 in
theorem sm_c114 : lw_tbl[795]? = some (.code ⟨"TwoPrintsModel", "letterAt", "(I)I"⟩ prog_8_method_6_code 2 (some .int)) := rfl
set_option maxRecDepth 100000 in
theorem sm_c115 : lw_tbl[798]? = some (.code ⟨"TwoPrintsModel", "isLetter", "(I)Z"⟩ prog_8_method_7_code 1 (some .boolean)) := rfl
set_option maxRecDepth 100000 in
theorem sm_c116 : lw_tbl[802]? = some (.code ⟨"TwoPrintsModel", "isWell", "()Z"⟩ prog_8_method_9_code 1 (some .boolean)) := rfl
set_option maxRecDepth 100000 in
theorem sm_c117 : lw_tbl[805]? = some (.code ⟨"TwoPrintsModel", "bitOf", "(I)I"⟩ prog_8_method_13_code 1 (some .int)) := rfl
set_option maxRecDepth 100000 in
theorem sm_c118 : lw_tbl[809]? = some (.code ⟨"TwoPrintsModel", "takes", "(Z)I"⟩ prog_8_method_10_code 3 (some .int)) := rfl
set_option maxRecDepth 100000 in
theorem sm_c119 : lw_tbl[813]? = some (.code ⟨"TwoPrintsModel", "readsItem", "(I)V"⟩ prog_8_method_14_code 6 none) := rfl
set_option maxRecDepth 100000 in
theorem sm_c120 : lw_tbl[817]? = some (.code ⟨"TwoPrintsModel", "number", "(II)I"⟩ prog_8_method_11_code 3 (some .int)) := rfl
set_option maxRecDepth 100000 in
theorem sm_c121 : lw_tbl[821]? = some (.code ⟨"TwoPrintsModel", "walker", "(II)I"⟩ prog_8_method_23_code 3 (some .int)) := rfl
set_option maxRecDepth 100000 in
theorem sm_c122 : lw_tbl[824]? = some (.code ⟨"TwoPrintsModel", "isWalker", "(I)Z"⟩ prog_8_method_17_code 1 (some .boolean)) := rfl
set_option maxRecDepth 100000 in
theorem sm_c123 : lw_tbl[828]? = some (.code ⟨"TwoPrintsModel", "printsOf", "(II)I"⟩ prog_8_method_21_code 5 (some .int)) := rfl
set_option maxRecDepth 100000 in
theorem sm_c124 : lw_tbl[832]? = some (.code ⟨"TwoPrintsModel", "giftsFor", "(I)I"⟩ prog_8_method_22_code 4 (some .int)) := rfl
set_option maxRecDepth 100000 in
theorem sm_c125 : lw_tbl[836]? = some (.code ⟨"TwoPrintsModel", "depth", "(II)I"⟩ prog_8_method_24_code 3 (some .int)) := rfl
set_option maxRecDepth 100000 in
theorem sm_c126 : lw_tbl[840]? = some (.code ⟨"TwoPrintsModel", "isFoot", "(I)Z"⟩ prog_8_method_18_code 2 (some .boolean)) := rfl
set_option maxRecDepth 100000 in
theorem sm_c127 : lw_tbl[844]? = some (.code ⟨"TwoPrintsModel", "gift", "(II)I"⟩ prog_8_method_25_code 3 (some .int)) := rfl
set_option maxRecDepth 100000 in
theorem sm_c128 : lw_tbl[848]? = some (.code ⟨"TwoPrintsModel", "now", "(I)I"⟩ prog_8_method_27_code 4 (some .int)) := rfl
set_option maxRecDepth 100000 in
theorem sm_c129 : lw_tbl[852]? = some (.code ⟨"TwoPrintsModel", "isBoth", "(I)Z"⟩ prog_8_method_20_code 2 (some .boolean)) := rfl
set_option maxRecDepth 100000 in
theorem sm_c130 : lw_tbl[856]? = some (.code ⟨"TwoPrintsModel", "hasPrint", "(II)Z"⟩ prog_8_method_19_code 3 (some .boolean)) := rfl
set_option maxRecDepth 100000 in
theorem sm_c131 : lw_tbl[860]? = some (.code ⟨"TwoPrintsModel", "peace", "()I"⟩ prog_8_method_26_code 6 (some .int)) := rfl
set_option maxRecDepth 100000 in
theorem sm_c132 : lw_tbl[864]? = some (.code ⟨"TwoPrintsModel", "walks", "(II)I"⟩ prog_8_method_30_code 5 (some .int)) := rfl
set_option maxRecDepth 100000 in
theorem sm_c133 : lw_tbl[868]? = some (.code ⟨"TwoPrintsModel", "notes", "()V"⟩ prog_8_method_28_code 2 none) := rfl
set_option maxRecDepth 100000 in
theorem sm_c134 : lw_tbl[872]? = some (.code ⟨"TwoPrintsModel", "on", "(IIII)I"⟩ prog_8_method_29_code 5 (some .int)) := rfl
set_option maxRecDepth 100000 in
theorem sm_c135 : lw_tbl[876]? = some (.code ⟨"TwoPrintsModel", "gives", "(II)I"⟩ prog_8_method_31_code 3 (some .int)) := rfl
set_option maxRecDepth 100000 in
theorem sm_c136 : lw_tbl[880]? = some (.code ⟨"TwoPrintsModel", "rains", "(I)I"⟩ prog_8_method_33_code 3 (some .int)) := rfl
set_option maxRecDepth 100000 in
theorem sm_c137 : lw_tbl[884]? = some (.code ⟨"TwoPrintsModel", "printsOfBoth", "()I"⟩ prog_8_method_32_code 1 (some .int)) := rfl
set_option maxRecDepth 100000 in
theorem sm_c138 : lw_tbl[888]? = some (.code ⟨"TwoPrintsModel", "snows", "()I"⟩ prog_8_method_34_code 3 (some .int)) := rfl
set_option maxRecDepth 100000 in
theorem sm_c139 : lw_tbl[892]? = some (.code ⟨"TwoPrintsModel", "cows", "(I)I"⟩ prog_8_method_35_code 5 (some .int)) := rfl
set_option maxRecDepth 100000 in
theorem sm_c140 : lw_tbl[896]? = some (.code ⟨"TwoPrintsModel", "fills", "(II)I"⟩ prog_8_method_36_code 4 (some .int)) := rfl
set_option maxRecDepth 100000 in
theorem sm_c141 : lw_tbl[900]? = some (.code ⟨"TwoPrintsModel", "undo", "()I"⟩ prog_8_method_37_code 2 (some .int)) := rfl
set_option maxRecDepth 100000 in
theorem sm_c142 : lw_tbl[904]? = some (.code ⟨"TwoPrintsModel", "whose", "(I)I"⟩ prog_8_method_40_code 2 (some .int)) := rfl
set_option maxRecDepth 100000 in
theorem sm_c143 : lw_tbl[908]? = some (.code ⟨"TwoPrintsModel", "whoseIs", "(I)I"⟩ prog_8_method_39_code 4 (some .int)) := rfl
set_option maxRecDepth 100000 in
theorem sm_c144 : lw_tbl[912]? = some (.code ⟨"TwoPrintsModel", "has", "(II)Z"⟩ prog_8_method_38_code 6 (some .boolean)) := rfl
set_option maxRecDepth 100000 in
theorem sm_c145 : lw_tbl[916]? = some (.code ⟨"TwoPrintsModel", "both", "(I)I"⟩ prog_8_method_41_code 4 (some .int)) := rfl
set_option maxRecDepth 100000 in
theorem sm_c146 : lw_tbl[920]? = some (.code ⟨"TwoPrintsModel", "tells", "(II)I"⟩ prog_8_method_42_code 4 (some .int)) := rfl
set_option maxRecDepth 100000 in
theorem sm_c147 : lw_tbl[924]? = some (.code ⟨"TwoPrintsModel", "left", "(II)I"⟩ prog_8_method_43_code 3 (some .int)) := rfl
set_option maxRecDepth 100000 in
theorem sm_c148 : lw_tbl[928]? = some (.code ⟨"TwoPrintsModel", "jumps", "(II)I"⟩ prog_8_method_44_code 7 (some .int)) := rfl
set_option maxRecDepth 100000 in
theorem sm_c149 : lw_tbl[932]? = some (.code ⟨"TwoPrintsModel", "child", "(II)I"⟩ prog_8_method_48_code 8 (some .int)) := rfl
set_option maxRecDepth 100000 in
theorem sm_c150 : lw_tbl[936]? = some (.code ⟨"TwoPrintsModel", "endOf", "(Z)I"⟩ prog_8_method_45_code 5 (some .int)) := rfl
set_option maxRecDepth 100000 in
theorem sm_c151 : lw_tbl[940]? = some (.code ⟨"TwoPrintsModel", "measures", "(II)V"⟩ prog_8_method_46_code 11 none) := rfl
set_option maxRecDepth 100000 in
theorem sm_c152 : lw_tbl[946]? = some (.code ⟨"TwoPrintsModel", "nearest", "(I)I"⟩ prog_8_method_47_code 4 (some .int)) := rfl
set_option maxRecDepth 100000 in
theorem sm_c153 : lw_tbl[950]? = some (.code ⟨"TwoPrintsModel", "go", "(IIII)I"⟩ prog_8_method_50_code 10 (some .int)) := rfl
set_option maxRecDepth 100000 in
theorem sm_c154 : lw_tbl[954]? = some (.code ⟨"TwoPrintsModel", "cut", "(II)I"⟩ prog_8_method_49_code 3 (some .int)) := rfl
set_option maxRecDepth 100000 in
theorem sm_c155 : lw_tbl[958]? = some (.code ⟨"TwoPrintsModel", "odds", "(IIII)I"⟩ prog_8_method_55_code 8 (some .int)) := rfl
set_option maxRecDepth 100000 in
theorem sm_c156 : lw_tbl[961]? = some (.code ⟨"TwoPrintsModel", "ones", "(I)I"⟩ prog_8_method_52_code 3 (some .int)) := rfl
set_option maxRecDepth 100000 in
theorem sm_c157 : lw_tbl[964]? = some (.code ⟨"TwoPrintsModel", "power", "(II)I"⟩ prog_8_method_53_code 4 (some .int)) := rfl
set_option maxRecDepth 100000 in
theorem sm_c158 : lw_tbl[967]? = some (.code ⟨"TwoPrintsModel", "part", "(III)I"⟩ prog_8_method_54_code 4 (some .int)) := rfl
set_option maxRecDepth 100000 in
theorem sm_c159 : lw_tbl[970]? = some (.code ⟨"TwoPrintsModel", "gcd", "(II)I"⟩ prog_8_method_51_code 5 (some .int)) := rfl
set_option maxRecDepth 100000 in
theorem sm_c160 : lw_tbl[974]? = some (.code ⟨"TwoPrintsModel", "onePath", "(III)I"⟩ prog_8_method_56_code 6 (some .int)) := rfl
set_option maxRecDepth 100000 in
theorem sm_c161 : lw_tbl[978]? = some (.code ⟨"TwoPrintsModel", "finds", "(I)I"⟩ prog_8_method_57_code 2 (some .int)) := rfl
set_option maxRecDepth 100000 in
theorem sm_c162 : lw_tbl[982]? = some (.code ⟨"TwoPrintsModel", "forget", "()I"⟩ prog_8_method_58_code 2 (some .int)) := rfl
set_option maxRecDepth 100000 in
theorem sm_c163 : lw_tbl[986]? = some (.code ⟨"TwoPrintsModel", "who", "()I"⟩ prog_8_method_59_code 3 (some .int)) := rfl
set_option maxRecDepth 100000 in
theorem sm_c164 : lw_tbl[990]? = some (.code ⟨"TwoPrintsModel", "strangers", "(I)I"⟩ prog_8_method_60_code 8 (some .int)) := rfl
set_option maxRecDepth 100000 in
theorem sm_c165 : lw_tbl[994]? = some (.code ⟨"TwoPrintsModel", "rate", "(II)I"⟩ prog_8_method_61_code 6 (some .int)) := rfl
set_option maxRecDepth 100000 in
theorem sm_c166 : lw_tbl[1004]? = some (.code ⟨"TwoPrintsModel", "keep", "(I)I"⟩ prog_8_method_62_code 3 (some .int)) := rfl
set_option maxRecDepth 100000 in
theorem sm_c167 : lw_tbl[1008]? = some (.code ⟨"TwoPrintsModel", "back", "(I)I"⟩ prog_8_method_63_code 3 (some .int)) := rfl
set_option maxRecDepth 100000 in
theorem sm_c168 : lw_tbl[1012]? = some (.code ⟨"TwoPrintsModel", "count", "(I)I"⟩ prog_8_method_64_code 2 (some .int)) := rfl
set_option maxRecDepth 100000 in
theorem sm_c169 : lw_tbl[1016]? = some (.code ⟨"TwoPrintsModel", "trace", "()J"⟩ prog_8_method_65_code 1 (some .long)) := rfl
set_option maxRecDepth 100000 in
theorem sm_c170 : lw_tbl[660]? = some (.code ⟨"java/lang/Integer", "bitCount", "(I)I"⟩ prog_9_method_49_code 1 (some .int)) := rfl
set_option maxRecDepth 100000 in
theorem sm_c171 : lw_tbl[354]? = some (.code ⟨"java/lang/Long", "bitCount", "(J)I"⟩ prog_10_method_50_code 2 (some .int)) := rfl
set_option maxRecDepth 100000 in
theorem sm_c172 : lw_tbl[180]? = some (.code ⟨"java/util/Arrays", "fill", "([II)V"⟩ prog_13_method_103_code 4 none) := rfl
theorem sm_codes : ∀ y, y < 173 → lw_tbl[sm_pl y]? = some (.code (sm_nm y) (sm_cd y) (sm_ml y) (sm_rt y))
  | 0, _ => sm_c0
  | 1, _ => sm_c1
  | 2, _ => sm_c2
  | 3, _ => sm_c3
  | 4, _ => sm_c4
  | 5, _ => sm_c5
  | 6, _ => sm_c6
  | 7, _ => sm_c7
  | 8, _ => sm_c8
  | 9, _ => sm_c9
  | 10, _ => sm_c10
  | 11, _ => sm_c11
  | 12, _ => sm_c12
  | 13, _ => sm_c13
  | 14, _ => sm_c14
  | 15, _ => sm_c15
  | 16, _ => sm_c16
  | 17, _ => sm_c17
  | 18, _ => sm_c18
  | 19, _ => sm_c19
  | 20, _ => sm_c20
  | 21, _ => sm_c21
  | 22, _ => sm_c22
  | 23, _ => sm_c23
  | 24, _ => sm_c24
  | 25, _ => sm_c25
  | 26, _ => sm_c26
  | 27, _ => sm_c27
  | 28, _ => sm_c28
  | 29, _ => sm_c29
  | 30, _ => sm_c30
  | 31, _ => sm_c31
  | 32, _ => sm_c32
  | 33, _ => sm_c33
  | 34, _ => sm_c34
  | 35, _ => sm_c35
  | 36, _ => sm_c36
  | 37, _ => sm_c37
  | 38, _ => sm_c38
  | 39, _ => sm_c39
  | 40, _ => sm_c40
  | 41, _ => sm_c41
  | 42, _ => sm_c42
  | 43, _ => sm_c43
  | 44, _ => sm_c44
  | 45, _ => sm_c45
  | 46, _ => sm_c46
  | 47, _ => sm_c47
  | 48, _ => sm_c48
  | 49, _ => sm_c49
  | 50, _ => sm_c50
  | 51, _ => sm_c51
  | 52, _ => sm_c52
  | 53, _ => sm_c53
  | 54, _ => sm_c54
  | 55, _ => sm_c55
  | 56, _ => sm_c56
  | 57, _ => sm_c57
  | 58, _ => sm_c58
  | 59, _ => sm_c59
  | 60, _ => sm_c60
  | 61, _ => sm_c61
  | 62, _ => sm_c62
  | 63, _ => sm_c63
  | 64, _ => sm_c64
  | 65, _ => sm_c65
  | 66, _ => sm_c66
  | 67, _ => sm_c67
  | 68, _ => sm_c68
  | 69, _ => sm_c69
  | 70, _ => sm_c70
  | 71, _ => sm_c71
  | 72, _ => sm_c72
  | 73, _ => sm_c73
  | 74, _ => sm_c74
  | 75, _ => sm_c75
  | 76, _ => sm_c76
  | 77, _ => sm_c77
  | 78, _ => sm_c78
  | 79, _ => sm_c79
  | 80, _ => sm_c80
  | 81, _ => sm_c81
  | 82, _ => sm_c82
  | 83, _ => sm_c83
  | 84, _ => sm_c84
  | 85, _ => sm_c85
  | 86, _ => sm_c86
  | 87, _ => sm_c87
  | 88, _ => sm_c88
  | 89, _ => sm_c89
  | 90, _ => sm_c90
  | 91, _ => sm_c91
  | 92, _ => sm_c92
  | 93, _ => sm_c93
  | 94, _ => sm_c94
  | 95, _ => sm_c95
  | 96, _ => sm_c96
  | 97, _ => sm_c97
  | 98, _ => sm_c98
  | 99, _ => sm_c99
  | 100, _ => sm_c100
  | 101, _ => sm_c101
  | 102, _ => sm_c102
  | 103, _ => sm_c103
  | 104, _ => sm_c104
  | 105, _ => sm_c105
  | 106, _ => sm_c106
  | 107, _ => sm_c107
  | 108, _ => sm_c108
  | 109, _ => sm_c109
  | 110, _ => sm_c110
  | 111, _ => sm_c111
  | 112, _ => sm_c112
  | 113, _ => sm_c113
  | 114, _ => sm_c114
  | 115, _ => sm_c115
  | 116, _ => sm_c116
  | 117, _ => sm_c117
  | 118, _ => sm_c118
  | 119, _ => sm_c119
  | 120, _ => sm_c120
  | 121, _ => sm_c121
  | 122, _ => sm_c122
  | 123, _ => sm_c123
  | 124, _ => sm_c124
  | 125, _ => sm_c125
  | 126, _ => sm_c126
  | 127, _ => sm_c127
  | 128, _ => sm_c128
  | 129, _ => sm_c129
  | 130, _ => sm_c130
  | 131, _ => sm_c131
  | 132, _ => sm_c132
  | 133, _ => sm_c133
  | 134, _ => sm_c134
  | 135, _ => sm_c135
  | 136, _ => sm_c136
  | 137, _ => sm_c137
  | 138, _ => sm_c138
  | 139, _ => sm_c139
  | 140, _ => sm_c140
  | 141, _ => sm_c141
  | 142, _ => sm_c142
  | 143, _ => sm_c143
  | 144, _ => sm_c144
  | 145, _ => sm_c145
  | 146, _ => sm_c146
  | 147, _ => sm_c147
  | 148, _ => sm_c148
  | 149, _ => sm_c149
  | 150, _ => sm_c150
  | 151, _ => sm_c151
  | 152, _ => sm_c152
  | 153, _ => sm_c153
  | 154, _ => sm_c154
  | 155, _ => sm_c155
  | 156, _ => sm_c156
  | 157, _ => sm_c157
  | 158, _ => sm_c158
  | 159, _ => sm_c159
  | 160, _ => sm_c160
  | 161, _ => sm_c161
  | 162, _ => sm_c162
  | 163, _ => sm_c163
  | 164, _ => sm_c164
  | 165, _ => sm_c165
  | 166, _ => sm_c166
  | 167, _ => sm_c167
  | 168, _ => sm_c168
  | 169, _ => sm_c169
  | 170, _ => sm_c170
  | 171, _ => sm_c171
  | 172, _ => sm_c172
  | n + 173, h => absurd h (by omega)
