section
-- ===== PART A: goes FIRST, ahead of the names: the tables' words, and 'selects' of the private methods out of them =====
/-- a private method of a class that the tables say can be made, by its rows of tables_1 -/
def lw_okq (q : MethodName × Nat) : Prop := (q.1.cls ≠ "java/lang/invoke/MethodHandle" ∧ q.1.cls ≠ "java/lang/invoke/VarHandle") ∧ Cond.instantiable q.1.cls q.2 ∈ tables_1 ∧ Cond.privateMethod q.1 ∈ tables_1 ∧ Cond.instanceMethod q.1 ∈ tables_1
theorem lw_p0 : lw_okq (⟨"AbsentPost", "find", "(I)I"⟩, 15) := ⟨⟨by decide +kernel, by decide +kernel⟩, List.mem_of_getElem? (i := 11) (by decide +kernel), List.mem_of_getElem? (i := 192) (by decide +kernel), List.mem_of_getElem? (i := 193) (by decide +kernel)⟩
theorem lw_p1 : lw_okq (⟨"AbsentPost", "refusePlace", "(II)I"⟩, 15) := ⟨⟨by decide +kernel, by decide +kernel⟩, List.mem_of_getElem? (i := 11) (by decide +kernel), List.mem_of_getElem? (i := 200) (by decide +kernel), List.mem_of_getElem? (i := 201) (by decide +kernel)⟩
theorem lw_p2 : lw_okq (⟨"AbsentPost", "isHouse", "(I)Z"⟩, 15) := ⟨⟨by decide +kernel, by decide +kernel⟩, List.mem_of_getElem? (i := 11) (by decide +kernel), List.mem_of_getElem? (i := 277) (by decide +kernel), List.mem_of_getElem? (i := 278) (by decide +kernel)⟩
theorem lw_p3 : lw_okq (⟨"AbsentPost", "refuseRound", "(I)I"⟩, 15) := ⟨⟨by decide +kernel, by decide +kernel⟩, List.mem_of_getElem? (i := 11) (by decide +kernel), List.mem_of_getElem? (i := 336) (by decide +kernel), List.mem_of_getElem? (i := 337) (by decide +kernel)⟩
theorem lw_p4 : lw_okq (⟨"AbsentPost", "tryRound", "()I"⟩, 15) := ⟨⟨by decide +kernel, by decide +kernel⟩, List.mem_of_getElem? (i := 11) (by decide +kernel), List.mem_of_getElem? (i := 423) (by decide +kernel), List.mem_of_getElem? (i := 424) (by decide +kernel)⟩
theorem lw_p5 : lw_okq (⟨"AbsentPost$Search", "goOn", "(LAbsentPost$Post;II)V"⟩, 12) := ⟨⟨by decide +kernel, by decide +kernel⟩, List.mem_of_getElem? (i := 90) (by decide +kernel), List.mem_of_getElem? (i := 455) (by decide +kernel), List.mem_of_getElem? (i := 456) (by decide +kernel)⟩
theorem lw_p6 : lw_okq (⟨"AbsentPost", "refuseSights", "(I)I"⟩, 15) := ⟨⟨by decide +kernel, by decide +kernel⟩, List.mem_of_getElem? (i := 11) (by decide +kernel), List.mem_of_getElem? (i := 493) (by decide +kernel), List.mem_of_getElem? (i := 494) (by decide +kernel)⟩
theorem lw_p7 : lw_okq (⟨"AbsentPost", "agrees", "(II)Z"⟩, 15) := ⟨⟨by decide +kernel, by decide +kernel⟩, List.mem_of_getElem? (i := 11) (by decide +kernel), List.mem_of_getElem? (i := 498) (by decide +kernel), List.mem_of_getElem? (i := 499) (by decide +kernel)⟩
theorem lw_p8 : lw_okq (⟨"AbsentPost", "postmanTurn", "(IIII)I"⟩, 15) := ⟨⟨by decide +kernel, by decide +kernel⟩, List.mem_of_getElem? (i := 11) (by decide +kernel), List.mem_of_getElem? (i := 524) (by decide +kernel), List.mem_of_getElem? (i := 525) (by decide +kernel)⟩
theorem lw_p9 : lw_okq (⟨"AbsentPost", "wagTurn", "(IIII)I"⟩, 15) := ⟨⟨by decide +kernel, by decide +kernel⟩, List.mem_of_getElem? (i := 11) (by decide +kernel), List.mem_of_getElem? (i := 529) (by decide +kernel), List.mem_of_getElem? (i := 530) (by decide +kernel)⟩
theorem lw_p10 : lw_okq (⟨"AbsentPost", "tellShare", "(JJ)V"⟩, 15) := ⟨⟨by decide +kernel, by decide +kernel⟩, List.mem_of_getElem? (i := 11) (by decide +kernel), List.mem_of_getElem? (i := 540) (by decide +kernel), List.mem_of_getElem? (i := 541) (by decide +kernel)⟩
theorem lw_p11 : lw_okq (⟨"AbsentPost", "countKept", "()I"⟩, 15) := ⟨⟨by decide +kernel, by decide +kernel⟩, List.mem_of_getElem? (i := 11) (by decide +kernel), List.mem_of_getElem? (i := 582) (by decide +kernel), List.mem_of_getElem? (i := 583) (by decide +kernel)⟩
theorem lw_p12 : lw_okq (⟨"AbsentPostModel", "found", "(I)I"⟩, 25) := ⟨⟨by decide +kernel, by decide +kernel⟩, List.mem_of_getElem? (i := 601) (by decide +kernel), List.mem_of_getElem? (i := 694) (by decide +kernel), List.mem_of_getElem? (i := 695) (by decide +kernel)⟩
theorem lw_p13 : lw_okq (⟨"AbsentPostModel", "anew", "(II)V"⟩, 25) := ⟨⟨by decide +kernel, by decide +kernel⟩, List.mem_of_getElem? (i := 601) (by decide +kernel), List.mem_of_getElem? (i := 698) (by decide +kernel), List.mem_of_getElem? (i := 699) (by decide +kernel)⟩
theorem lw_p14 : lw_okq (⟨"AbsentPostModel", "tells", "(II)I"⟩, 25) := ⟨⟨by decide +kernel, by decide +kernel⟩, List.mem_of_getElem? (i := 601) (by decide +kernel), List.mem_of_getElem? (i := 710) (by decide +kernel), List.mem_of_getElem? (i := 711) (by decide +kernel)⟩
theorem lw_p15 : lw_okq (⟨"AbsentPostModel", "faultOf", "(I)I"⟩, 25) := ⟨⟨by decide +kernel, by decide +kernel⟩, List.mem_of_getElem? (i := 601) (by decide +kernel), List.mem_of_getElem? (i := 746) (by decide +kernel), List.mem_of_getElem? (i := 747) (by decide +kernel)⟩
def lw_privs_1 : List (MethodName × Nat) := [(⟨"AbsentPost", "find", "(I)I"⟩, 15), (⟨"AbsentPost", "refusePlace", "(II)I"⟩, 15), (⟨"AbsentPost", "isHouse", "(I)Z"⟩, 15), (⟨"AbsentPost", "refuseRound", "(I)I"⟩, 15), (⟨"AbsentPost", "tryRound", "()I"⟩, 15), (⟨"AbsentPost$Search", "goOn", "(LAbsentPost$Post;II)V"⟩, 12), (⟨"AbsentPost", "refuseSights", "(I)I"⟩, 15), (⟨"AbsentPost", "agrees", "(II)Z"⟩, 15), (⟨"AbsentPost", "postmanTurn", "(IIII)I"⟩, 15), (⟨"AbsentPost", "wagTurn", "(IIII)I"⟩, 15), (⟨"AbsentPost", "tellShare", "(JJ)V"⟩, 15), (⟨"AbsentPost", "countKept", "()I"⟩, 15), (⟨"AbsentPostModel", "found", "(I)I"⟩, 25), (⟨"AbsentPostModel", "anew", "(II)V"⟩, 25), (⟨"AbsentPostModel", "tells", "(II)I"⟩, 25), (⟨"AbsentPostModel", "faultOf", "(I)I"⟩, 25)]
theorem lw_r1 : ∀ q ∈ lw_privs_1, lw_okq q := List.forall_mem_cons.mpr ⟨lw_p0, List.forall_mem_cons.mpr ⟨lw_p1, List.forall_mem_cons.mpr ⟨lw_p2, List.forall_mem_cons.mpr ⟨lw_p3, List.forall_mem_cons.mpr ⟨lw_p4, List.forall_mem_cons.mpr ⟨lw_p5, List.forall_mem_cons.mpr ⟨lw_p6, List.forall_mem_cons.mpr ⟨lw_p7, List.forall_mem_cons.mpr ⟨lw_p8, List.forall_mem_cons.mpr ⟨lw_p9, List.forall_mem_cons.mpr ⟨lw_p10, List.forall_mem_cons.mpr ⟨lw_p11, List.forall_mem_cons.mpr ⟨lw_p12, List.forall_mem_cons.mpr ⟨lw_p13, List.forall_mem_cons.mpr ⟨lw_p14, List.forall_mem_cons.mpr ⟨lw_p15, fun _ h => absurd h List.not_mem_nil⟩⟩⟩⟩⟩⟩⟩⟩⟩⟩⟩⟩⟩⟩⟩⟩
theorem lw_p16 : lw_okq (⟨"AbsentPostModel", "blanks", "(I)V"⟩, 25) := ⟨⟨by decide +kernel, by decide +kernel⟩, List.mem_of_getElem? (i := 601) (by decide +kernel), List.mem_of_getElem? (i := 750) (by decide +kernel), List.mem_of_getElem? (i := 751) (by decide +kernel)⟩
theorem lw_p17 : lw_okq (⟨"AbsentPostModel", "byteAt", "(II)I"⟩, 25) := ⟨⟨by decide +kernel, by decide +kernel⟩, List.mem_of_getElem? (i := 601) (by decide +kernel), List.mem_of_getElem? (i := 754) (by decide +kernel), List.mem_of_getElem? (i := 755) (by decide +kernel)⟩
theorem lw_p18 : lw_okq (⟨"AbsentPostModel", "takesHouse", "(I)Z"⟩, 25) := ⟨⟨by decide +kernel, by decide +kernel⟩, List.mem_of_getElem? (i := 601) (by decide +kernel), List.mem_of_getElem? (i := 758) (by decide +kernel), List.mem_of_getElem? (i := 759) (by decide +kernel)⟩
theorem lw_p19 : lw_okq (⟨"AbsentPostModel", "figure", "(II)I"⟩, 25) := ⟨⟨by decide +kernel, by decide +kernel⟩, List.mem_of_getElem? (i := 601) (by decide +kernel), List.mem_of_getElem? (i := 765) (by decide +kernel), List.mem_of_getElem? (i := 766) (by decide +kernel)⟩
theorem lw_p20 : lw_okq (⟨"AbsentPostModel", "copyAll", "(III)V"⟩, 25) := ⟨⟨by decide +kernel, by decide +kernel⟩, List.mem_of_getElem? (i := 601) (by decide +kernel), List.mem_of_getElem? (i := 776) (by decide +kernel), List.mem_of_getElem? (i := 777) (by decide +kernel)⟩
theorem lw_p21 : lw_okq (⟨"AbsentPostModel", "isHouse", "(I)Z"⟩, 25) := ⟨⟨by decide +kernel, by decide +kernel⟩, List.mem_of_getElem? (i := 601) (by decide +kernel), List.mem_of_getElem? (i := 784) (by decide +kernel), List.mem_of_getElem? (i := 785) (by decide +kernel)⟩
theorem lw_p22 : lw_okq (⟨"AbsentPostModel", "houseTells", "(II)I"⟩, 25) := ⟨⟨by decide +kernel, by decide +kernel⟩, List.mem_of_getElem? (i := 601) (by decide +kernel), List.mem_of_getElem? (i := 789) (by decide +kernel), List.mem_of_getElem? (i := 790) (by decide +kernel)⟩
theorem lw_p23 : lw_okq (⟨"AbsentPostModel", "outOf", "(I)I"⟩, 25) := ⟨⟨by decide +kernel, by decide +kernel⟩, List.mem_of_getElem? (i := 601) (by decide +kernel), List.mem_of_getElem? (i := 793) (by decide +kernel), List.mem_of_getElem? (i := 794) (by decide +kernel)⟩
theorem lw_p24 : lw_okq (⟨"AbsentPostModel", "emptyNow", "(I)I"⟩, 25) := ⟨⟨by decide +kernel, by decide +kernel⟩, List.mem_of_getElem? (i := 601) (by decide +kernel), List.mem_of_getElem? (i := 797) (by decide +kernel), List.mem_of_getElem? (i := 798) (by decide +kernel)⟩
theorem lw_p25 : lw_okq (⟨"AbsentPostModel", "dueOf", "(I)I"⟩, 25) := ⟨⟨by decide +kernel, by decide +kernel⟩, List.mem_of_getElem? (i := 601) (by decide +kernel), List.mem_of_getElem? (i := 808) (by decide +kernel), List.mem_of_getElem? (i := 809) (by decide +kernel)⟩
theorem lw_p26 : lw_okq (⟨"AbsentPostModel", "minds", "()V"⟩, 25) := ⟨⟨by decide +kernel, by decide +kernel⟩, List.mem_of_getElem? (i := 601) (by decide +kernel), List.mem_of_getElem? (i := 826) (by decide +kernel), List.mem_of_getElem? (i := 827) (by decide +kernel)⟩
theorem lw_p27 : lw_okq (⟨"AbsentPostModel", "against", "(I)I"⟩, 25) := ⟨⟨by decide +kernel, by decide +kernel⟩, List.mem_of_getElem? (i := 601) (by decide +kernel), List.mem_of_getElem? (i := 834) (by decide +kernel), List.mem_of_getElem? (i := 835) (by decide +kernel)⟩
theorem lw_p28 : lw_okq (⟨"AbsentPostModel", "begins", "()V"⟩, 25) := ⟨⟨by decide +kernel, by decide +kernel⟩, List.mem_of_getElem? (i := 601) (by decide +kernel), List.mem_of_getElem? (i := 838) (by decide +kernel), List.mem_of_getElem? (i := 839) (by decide +kernel)⟩
theorem lw_p29 : lw_okq (⟨"AbsentPostModel", "sets", "()V"⟩, 25) := ⟨⟨by decide +kernel, by decide +kernel⟩, List.mem_of_getElem? (i := 601) (by decide +kernel), List.mem_of_getElem? (i := 842) (by decide +kernel), List.mem_of_getElem? (i := 843) (by decide +kernel)⟩
theorem lw_p30 : lw_okq (⟨"AbsentPostModel", "goesRound", "(I)V"⟩, 25) := ⟨⟨by decide +kernel, by decide +kernel⟩, List.mem_of_getElem? (i := 601) (by decide +kernel), List.mem_of_getElem? (i := 846) (by decide +kernel), List.mem_of_getElem? (i := 847) (by decide +kernel)⟩
theorem lw_p31 : lw_okq (⟨"AbsentPostModel", "goes", "(I)I"⟩, 25) := ⟨⟨by decide +kernel, by decide +kernel⟩, List.mem_of_getElem? (i := 601) (by decide +kernel), List.mem_of_getElem? (i := 850) (by decide +kernel), List.mem_of_getElem? (i := 851) (by decide +kernel)⟩
def lw_privs_2 : List (MethodName × Nat) := [(⟨"AbsentPostModel", "blanks", "(I)V"⟩, 25), (⟨"AbsentPostModel", "byteAt", "(II)I"⟩, 25), (⟨"AbsentPostModel", "takesHouse", "(I)Z"⟩, 25), (⟨"AbsentPostModel", "figure", "(II)I"⟩, 25), (⟨"AbsentPostModel", "copyAll", "(III)V"⟩, 25), (⟨"AbsentPostModel", "isHouse", "(I)Z"⟩, 25), (⟨"AbsentPostModel", "houseTells", "(II)I"⟩, 25), (⟨"AbsentPostModel", "outOf", "(I)I"⟩, 25), (⟨"AbsentPostModel", "emptyNow", "(I)I"⟩, 25), (⟨"AbsentPostModel", "dueOf", "(I)I"⟩, 25), (⟨"AbsentPostModel", "minds", "()V"⟩, 25), (⟨"AbsentPostModel", "against", "(I)I"⟩, 25), (⟨"AbsentPostModel", "begins", "()V"⟩, 25), (⟨"AbsentPostModel", "sets", "()V"⟩, 25), (⟨"AbsentPostModel", "goesRound", "(I)V"⟩, 25), (⟨"AbsentPostModel", "goes", "(I)I"⟩, 25)]
theorem lw_r2 : ∀ q ∈ lw_privs_2, lw_okq q := List.forall_mem_cons.mpr ⟨lw_p16, List.forall_mem_cons.mpr ⟨lw_p17, List.forall_mem_cons.mpr ⟨lw_p18, List.forall_mem_cons.mpr ⟨lw_p19, List.forall_mem_cons.mpr ⟨lw_p20, List.forall_mem_cons.mpr ⟨lw_p21, List.forall_mem_cons.mpr ⟨lw_p22, List.forall_mem_cons.mpr ⟨lw_p23, List.forall_mem_cons.mpr ⟨lw_p24, List.forall_mem_cons.mpr ⟨lw_p25, List.forall_mem_cons.mpr ⟨lw_p26, List.forall_mem_cons.mpr ⟨lw_p27, List.forall_mem_cons.mpr ⟨lw_p28, List.forall_mem_cons.mpr ⟨lw_p29, List.forall_mem_cons.mpr ⟨lw_p30, List.forall_mem_cons.mpr ⟨lw_p31, fun _ h => absurd h List.not_mem_nil⟩⟩⟩⟩⟩⟩⟩⟩⟩⟩⟩⟩⟩⟩⟩⟩
theorem lw_p32 : lw_okq (⟨"AbsentPostModel", "ends", "()V"⟩, 25) := ⟨⟨by decide +kernel, by decide +kernel⟩, List.mem_of_getElem? (i := 601) (by decide +kernel), List.mem_of_getElem? (i := 857) (by decide +kernel), List.mem_of_getElem? (i := 858) (by decide +kernel)⟩
theorem lw_p33 : lw_okq (⟨"AbsentPostModel", "mostLetters", "()I"⟩, 25) := ⟨⟨by decide +kernel, by decide +kernel⟩, List.mem_of_getElem? (i := 601) (by decide +kernel), List.mem_of_getElem? (i := 898) (by decide +kernel), List.mem_of_getElem? (i := 899) (by decide +kernel)⟩
theorem lw_p34 : lw_okq (⟨"AbsentPostModel", "clears", "()V"⟩, 25) := ⟨⟨by decide +kernel, by decide +kernel⟩, List.mem_of_getElem? (i := 601) (by decide +kernel), List.mem_of_getElem? (i := 902) (by decide +kernel), List.mem_of_getElem? (i := 903) (by decide +kernel)⟩
theorem lw_p35 : lw_okq (⟨"AbsentPostModel", "goesOn", "()Z"⟩, 25) := ⟨⟨by decide +kernel, by decide +kernel⟩, List.mem_of_getElem? (i := 601) (by decide +kernel), List.mem_of_getElem? (i := 906) (by decide +kernel), List.mem_of_getElem? (i := 907) (by decide +kernel)⟩
theorem lw_p36 : lw_okq (⟨"AbsentPostModel", "tries", "()V"⟩, 25) := ⟨⟨by decide +kernel, by decide +kernel⟩, List.mem_of_getElem? (i := 601) (by decide +kernel), List.mem_of_getElem? (i := 910) (by decide +kernel), List.mem_of_getElem? (i := 911) (by decide +kernel)⟩
theorem lw_p37 : lw_okq (⟨"AbsentPostModel", "errandsFor", "(II)I"⟩, 25) := ⟨⟨by decide +kernel, by decide +kernel⟩, List.mem_of_getElem? (i := 601) (by decide +kernel), List.mem_of_getElem? (i := 926) (by decide +kernel), List.mem_of_getElem? (i := 927) (by decide +kernel)⟩
theorem lw_p38 : lw_okq (⟨"AbsentPostModel", "againstSeen", "(I)I"⟩, 25) := ⟨⟨by decide +kernel, by decide +kernel⟩, List.mem_of_getElem? (i := 601) (by decide +kernel), List.mem_of_getElem? (i := 934) (by decide +kernel), List.mem_of_getElem? (i := 935) (by decide +kernel)⟩
theorem lw_p39 : lw_okq (⟨"AbsentPostModel", "isSeen", "(II)Z"⟩, 25) := ⟨⟨by decide +kernel, by decide +kernel⟩, List.mem_of_getElem? (i := 601) (by decide +kernel), List.mem_of_getElem? (i := 938) (by decide +kernel), List.mem_of_getElem? (i := 939) (by decide +kernel)⟩
theorem lw_p40 : lw_okq (⟨"AbsentPostModel", "lastMove", "(IIII)I"⟩, 25) := ⟨⟨by decide +kernel, by decide +kernel⟩, List.mem_of_getElem? (i := 601) (by decide +kernel), List.mem_of_getElem? (i := 960) (by decide +kernel), List.mem_of_getElem? (i := 961) (by decide +kernel)⟩
theorem lw_p41 : lw_okq (⟨"AbsentPostModel", "wins", "(IIIII)I"⟩, 25) := ⟨⟨by decide +kernel, by decide +kernel⟩, List.mem_of_getElem? (i := 601) (by decide +kernel), List.mem_of_getElem? (i := 964) (by decide +kernel), List.mem_of_getElem? (i := 965) (by decide +kernel)⟩
theorem lw_p42 : lw_okq (⟨"AbsentPostModel", "chance", "(JJ)I"⟩, 25) := ⟨⟨by decide +kernel, by decide +kernel⟩, List.mem_of_getElem? (i := 601) (by decide +kernel), List.mem_of_getElem? (i := 973) (by decide +kernel), List.mem_of_getElem? (i := 974) (by decide +kernel)⟩
theorem lw_p43 : lw_okq (⟨"AbsentPostModel", "sumOf", "(I)I"⟩, 25) := ⟨⟨by decide +kernel, by decide +kernel⟩, List.mem_of_getElem? (i := 601) (by decide +kernel), List.mem_of_getElem? (i := 1005) (by decide +kernel), List.mem_of_getElem? (i := 1006) (by decide +kernel)⟩
theorem lw_p44 : lw_okq (⟨"AbsentPostModel", "ofKind", "(II)I"⟩, 25) := ⟨⟨by decide +kernel, by decide +kernel⟩, List.mem_of_getElem? (i := 601) (by decide +kernel), List.mem_of_getElem? (i := 1009) (by decide +kernel), List.mem_of_getElem? (i := 1010) (by decide +kernel)⟩
theorem lw_p45 : lw_okq (⟨"AbsentPostModel", "mix", "(J)V"⟩, 25) := ⟨⟨by decide +kernel, by decide +kernel⟩, List.mem_of_getElem? (i := 601) (by decide +kernel), List.mem_of_getElem? (i := 1030) (by decide +kernel), List.mem_of_getElem? (i := 1031) (by decide +kernel)⟩
def lw_privs_3 : List (MethodName × Nat) := [(⟨"AbsentPostModel", "ends", "()V"⟩, 25), (⟨"AbsentPostModel", "mostLetters", "()I"⟩, 25), (⟨"AbsentPostModel", "clears", "()V"⟩, 25), (⟨"AbsentPostModel", "goesOn", "()Z"⟩, 25), (⟨"AbsentPostModel", "tries", "()V"⟩, 25), (⟨"AbsentPostModel", "errandsFor", "(II)I"⟩, 25), (⟨"AbsentPostModel", "againstSeen", "(I)I"⟩, 25), (⟨"AbsentPostModel", "isSeen", "(II)Z"⟩, 25), (⟨"AbsentPostModel", "lastMove", "(IIII)I"⟩, 25), (⟨"AbsentPostModel", "wins", "(IIIII)I"⟩, 25), (⟨"AbsentPostModel", "chance", "(JJ)I"⟩, 25), (⟨"AbsentPostModel", "sumOf", "(I)I"⟩, 25), (⟨"AbsentPostModel", "ofKind", "(II)I"⟩, 25), (⟨"AbsentPostModel", "mix", "(J)V"⟩, 25)]
theorem lw_r3 : ∀ q ∈ lw_privs_3, lw_okq q := List.forall_mem_cons.mpr ⟨lw_p32, List.forall_mem_cons.mpr ⟨lw_p33, List.forall_mem_cons.mpr ⟨lw_p34, List.forall_mem_cons.mpr ⟨lw_p35, List.forall_mem_cons.mpr ⟨lw_p36, List.forall_mem_cons.mpr ⟨lw_p37, List.forall_mem_cons.mpr ⟨lw_p38, List.forall_mem_cons.mpr ⟨lw_p39, List.forall_mem_cons.mpr ⟨lw_p40, List.forall_mem_cons.mpr ⟨lw_p41, List.forall_mem_cons.mpr ⟨lw_p42, List.forall_mem_cons.mpr ⟨lw_p43, List.forall_mem_cons.mpr ⟨lw_p44, List.forall_mem_cons.mpr ⟨lw_p45, fun _ h => absurd h List.not_mem_nil⟩⟩⟩⟩⟩⟩⟩⟩⟩⟩⟩⟩⟩⟩
def lw_privs : List (MethodName × Nat) := lw_privs_1 ++ (lw_privs_2 ++ (lw_privs_3))
def lw_tbl : List Cond := k2_sels lw_privs ++ tables_1
theorem lw_privs_ok : ∀ q ∈ lw_privs, lw_okq q := by
  show ∀ q ∈ lw_privs_1 ++ (lw_privs_2 ++ (lw_privs_3)), lw_okq q
  exact List.forall_mem_append.mpr ⟨lw_r1, List.forall_mem_append.mpr ⟨lw_r2, lw_r3⟩⟩

def RX0 : String := "AbsentPost$Post"
def TX0 : u_T := fun k => match k with
  | 0 => ("AbsentPost$Post", "kindOf", "[I", true)
  | 1 => ("AbsentPost$Post", "toldHours", "[I", true)
  | 2 => ("AbsentPost$Post", "firstDue", "[I", true)
  | 3 => ("AbsentPost$Post", "due", "[I", true)
  | 4 => ("AbsentPost$Post", "brought", "[I", true)
  | 5 => ("AbsentPost$Post", "errandHours", "[I", true)
  | 6 => ("AbsentPost$Post", "deeds", "[J", true)
  | 7 => ("AbsentPost$Post", "houses", "I", false)
  | 8 => ("AbsentPost$Post", "day", "I", false)
  | _ => ("AbsentPost$Post", "deedCount", "I", false)
def tyX0 : Nat → FieldType := fun k => match k with
  | 0 => .array .int
  | 1 => .array .int
  | 2 => .array .int
  | 3 => .array .int
  | 4 => .array .int
  | 5 => .array .int
  | 6 => .array .long
  | 7 => .int
  | 8 => .int
  | _ => .int
abbrev wsX00 : List Cond := u_ws RX0 TX0 10
theorem nmX0 : ∀ a, a < 10 → ∀ b, b < 10 → a ≠ b → (TX0 a).2.1 ≠ (TX0 b).2.1 := by decide +kernel
theorem tyX0_ok : ∀ k, k < 10 → parseFieldDescriptor (TX0 k).2.2.1 = some (tyX0 k) := by decide +kernel
def RX1 : String := "AbsentPost$Round"
def TX1 : u_T := fun k => match k with
  | 0 => ("AbsentPost$Round", "stops", "[I", true)
  | _ => ("AbsentPost$Round", "size", "I", false)
def tyX1 : Nat → FieldType := fun k => match k with
  | 0 => .array .int
  | _ => .int
abbrev wsX10 : List Cond := u_ws RX1 TX1 2
theorem nmX1 : ∀ a, a < 2 → ∀ b, b < 2 → a ≠ b → (TX1 a).2.1 ≠ (TX1 b).2.1 := by decide +kernel
theorem tyX1_ok : ∀ k, k < 2 → parseFieldDescriptor (TX1 k).2.2.1 = some (tyX1 k) := by decide +kernel
def RX2 : String := "AbsentPost$Search"
def TX2 : u_T := fun k => match k with
  | 0 => ("AbsentPost$Search", "free", "[I", true)
  | 1 => ("AbsentPost$Search", "path", "[I", true)
  | 2 => ("AbsentPost$Search", "richest", "[I", true)
  | 3 => ("AbsentPost$Search", "hours", "[I", true)
  | 4 => ("AbsentPost$Search", "letters", "[I", true)
  | 5 => ("AbsentPost$Search", "served", "[I", true)
  | 6 => ("AbsentPost$Search", "lastHours", "[I", true)
  | 7 => ("AbsentPost$Search", "richestSize", "I", false)
  | 8 => ("AbsentPost$Search", "mostLetters", "I", false)
  | 9 => ("AbsentPost$Search", "soonest", "I", false)
  | 10 => ("AbsentPost$Search", "mostServed", "I", false)
  | _ => ("AbsentPost$Search", "widestRounds", "I", false)
def tyX2 : Nat → FieldType := fun k => match k with
  | 0 => .array .int
  | 1 => .array .int
  | 2 => .array .int
  | 3 => .array .int
  | 4 => .array .int
  | 5 => .array .int
  | 6 => .array .int
  | 7 => .int
  | 8 => .int
  | 9 => .int
  | 10 => .int
  | _ => .int
abbrev wsX20 : List Cond := u_ws RX2 TX2 12
theorem nmX2 : ∀ a, a < 12 → ∀ b, b < 12 → a ≠ b → (TX2 a).2.1 ≠ (TX2 b).2.1 := by decide +kernel
theorem tyX2_ok : ∀ k, k < 12 → parseFieldDescriptor (TX2 k).2.2.1 = some (tyX2 k) := by decide +kernel
def RX3 : String := "AbsentPost"
def TX3 : u_T := fun k => match k with
  | 0 => ("AbsentPost", "rows", "[[I", true)
  | 1 => ("AbsentPost", "rowSizes", "[I", true)
  | 2 => ("AbsentPost", "texts", "[[B", true)
  | 3 => ("AbsentPost", "textSizes", "[I", true)
  | 4 => ("AbsentPost", "now", "LAbsentPost$Post;", true)
  | 5 => ("AbsentPost", "kept", "[LAbsentPost$Post;", true)
  | 6 => ("AbsentPost", "round", "LAbsentPost$Round;", true)
  | 7 => ("AbsentPost", "search", "LAbsentPost$Search;", true)
  | 8 => ("AbsentPost", "left", "[I", true)
  | 9 => ("AbsentPost", "open", "[I", true)
  | 10 => ("AbsentPost", "tallies", "[I", true)
  | 11 => ("AbsentPost", "latestAsked", "I", false)
  | 12 => ("AbsentPost", "latestFinding", "I", false)
  | 13 => ("AbsentPost", "latestUpper", "J", false)
  | _ => ("AbsentPost", "latestLower", "J", false)
def tyX3 : Nat → FieldType := fun k => match k with
  | 0 => .array (.array .int)
  | 1 => .array .int
  | 2 => .array (.array .byte)
  | 3 => .array .int
  | 4 => .object "AbsentPost$Post"
  | 5 => .array (.object "AbsentPost$Post")
  | 6 => .object "AbsentPost$Round"
  | 7 => .object "AbsentPost$Search"
  | 8 => .array .int
  | 9 => .array .int
  | 10 => .array .int
  | 11 => .int
  | 12 => .int
  | 13 => .long
  | _ => .long
abbrev wsX30 : List Cond := u_ws RX3 TX3 15
theorem nmX3 : ∀ a, a < 15 → ∀ b, b < 15 → a ≠ b → (TX3 a).2.1 ≠ (TX3 b).2.1 := by decide +kernel
theorem tyX3_ok : ∀ k, k < 15 → parseFieldDescriptor (TX3 k).2.2.1 = some (tyX3 k) := by decide +kernel
def RX4 : String := "AbsentPostModel"
def TX4 : u_T := fun k => match k with
  | 0 => ("AbsentPostModel", "w", "[I", true)
  | 1 => ("AbsentPostModel", "deeds", "I", false)
  | 2 => ("AbsentPostModel", "keptDeeds", "[I", true)
  | 3 => ("AbsentPostModel", "rows", "[I", true)
  | 4 => ("AbsentPostModel", "rowSize", "[I", true)
  | 5 => ("AbsentPostModel", "texts", "[I", true)
  | 6 => ("AbsentPostModel", "textSize", "[I", true)
  | 7 => ("AbsentPostModel", "held", "[I", true)
  | 8 => ("AbsentPostModel", "finding", "I", false)
  | 9 => ("AbsentPostModel", "findings", "[I", true)
  | 10 => ("AbsentPostModel", "asked", "I", false)
  | 11 => ("AbsentPostModel", "upper", "J", false)
  | 12 => ("AbsentPostModel", "lower", "J", false)
  | 13 => ("AbsentPostModel", "position", "I", false)
  | 14 => ("AbsentPostModel", "empties", "[I", true)
  | 15 => ("AbsentPostModel", "dues", "[I", true)
  | 16 => ("AbsentPostModel", "place", "I", false)
  | 17 => ("AbsentPostModel", "time", "I", false)
  | 18 => ("AbsentPostModel", "brought", "I", false)
  | 19 => ("AbsentPostModel", "served", "I", false)
  | 20 => ("AbsentPostModel", "lastTime", "I", false)
  | 21 => ("AbsentPostModel", "lane", "[I", true)
  | 22 => ("AbsentPostModel", "size", "I", false)
  | 23 => ("AbsentPostModel", "taken", "I", false)
  | _ => ("AbsentPostModel", "h", "J", false)
def tyX4 : Nat → FieldType := fun k => match k with
  | 0 => .array .int
  | 1 => .int
  | 2 => .array .int
  | 3 => .array .int
  | 4 => .array .int
  | 5 => .array .int
  | 6 => .array .int
  | 7 => .array .int
  | 8 => .int
  | 9 => .array .int
  | 10 => .int
  | 11 => .long
  | 12 => .long
  | 13 => .int
  | 14 => .array .int
  | 15 => .array .int
  | 16 => .int
  | 17 => .int
  | 18 => .int
  | 19 => .int
  | 20 => .int
  | 21 => .array .int
  | 22 => .int
  | 23 => .int
  | _ => .long
abbrev wsX40 : List Cond := u_ws RX4 TX4 25
theorem nmX4 : ∀ a, a < 25 → ∀ b, b < 25 → a ≠ b → (TX4 a).2.1 ≠ (TX4 b).2.1 := by decide +kernel
theorem tyX4_ok : ∀ k, k < 25 → parseFieldDescriptor (TX4 k).2.2.1 = some (tyX4 k) := by decide +kernel
abbrev vwCl : List vw_C := [(RX0, TX0, 10), (RX1, TX1, 2), (RX2, TX2, 12), (RX3, TX3, 15), (RX4, TX4, 25)]
theorem ab_iX0 : ∀ w ∈ u_ws RX0 TX0 10, w ∈ lw_tbl := by decide +kernel
theorem ab_iX1 : ∀ w ∈ u_ws RX1 TX1 2, w ∈ lw_tbl := by decide +kernel
theorem ab_iX2 : ∀ w ∈ u_ws RX2 TX2 12, w ∈ lw_tbl := by decide +kernel
theorem ab_iX3 : ∀ w ∈ u_ws RX3 TX3 15, w ∈ lw_tbl := by decide +kernel
theorem ab_iX4 : ∀ w ∈ u_ws RX4 TX4 25, w ∈ lw_tbl := by decide +kernel
end
section
/-! methods as data: (pc, instruction, length); constructors are walked by hand and stay empty here -/
-- 0: AbsentPost.<init>()V
def ab_c0_0 : List (Nat × Instr × Nat) := []
def ab_c0 : List (Nat × Instr × Nat) := ab_c0_0
def ab_y0 : MethodName := ⟨"AbsentPost", "<init>", "()V"⟩
-- 1: java/lang/Object.<init>()V
def ab_c1_0 : List (Nat × Instr × Nat) := []
def ab_c1 : List (Nat × Instr × Nat) := ab_c1_0
def ab_y1 : MethodName := ⟨"java/lang/Object", "<init>", "()V"⟩
-- 2: java/util/Arrays.fill([II)V
def ab_c2_0 : List (Nat × Instr × Nat) := [(0, .iconst 0, 1), (1, .istore_n 2, 1), (2, .aload_n 0, 1), (3, .arraylength, 1), (4, .istore_n 3, 1), (5, .iload_n 2, 1), (6, .iload_n 3, 1), (7, .if_icmp .ge 13, 3), (10, .aload_n 0, 1), (11, .iload_n 2, 1), (12, .iload_n 1, 1), (13, .iastore, 1), (14, .iinc 2 1, 3), (17, .goto (-12), 3), (20, .return_, 1)]
def ab_c2 : List (Nat × Instr × Nat) := ab_c2_0
def ab_y2 : MethodName := ⟨"java/util/Arrays", "fill", "([II)V"⟩
-- 3: AbsentPost$Post.<init>()V
def ab_c3_0 : List (Nat × Instr × Nat) := []
def ab_c3 : List (Nat × Instr × Nat) := ab_c3_0
def ab_y3 : MethodName := ⟨"AbsentPost$Post", "<init>", "()V"⟩
-- 4: AbsentPost$Round.<init>()V
def ab_c4_0 : List (Nat × Instr × Nat) := []
def ab_c4 : List (Nat × Instr × Nat) := ab_c4_0
def ab_y4 : MethodName := ⟨"AbsentPost$Round", "<init>", "()V"⟩
-- 5: AbsentPost$Search.<init>()V
def ab_c5_0 : List (Nat × Instr × Nat) := []
def ab_c5 : List (Nat × Instr × Nat) := ab_c5_0
def ab_y5 : MethodName := ⟨"AbsentPost$Search", "<init>", "()V"⟩
-- 6: AbsentPost.row(II)I
def ab_c6_0 : List (Nat × Instr × Nat) := [(0, .iload_n 1, 1), (1, .invokestatic 70, 3), (4, .ifCond .eq 9, 3), (7, .iload_n 2, 1), (8, .bipush 40, 2), (10, .if_icmp .le 5, 3), (13, .iconst (-1), 1), (14, .ireturn, 1), (15, .iload_n 2, 1), (16, .ifCond .ge 9, 3), (19, .aload_n 0, 1), (20, .iconst 5, 1), (21, .invokevirtual 74, 3), (24, .ireturn, 1), (25, .aload_n 0, 1), (26, .getfield 11, 3), (29, .iload_n 1, 1), (30, .aaload, 1), (31, .iconst 0, 1), (32, .invokestatic 18, 3), (35, .aload_n 0, 1), (36, .getfield 14, 3), (39, .iload_n 1, 1), (40, .iload_n 2, 1), (41, .iastore, 1), (42, .iload_n 2, 1), (43, .ireturn, 1)]
def ab_c6 : List (Nat × Instr × Nat) := ab_c6_0
def ab_y6 : MethodName := ⟨"AbsentPost", "row", "(II)I"⟩
-- 7: AbsentPost.isRow(I)Z
def ab_c7_0 : List (Nat × Instr × Nat) := [(0, .iload_n 0, 1), (1, .ifCond .lt 13, 3), (4, .iload_n 0, 1), (5, .bipush 6, 2), (7, .if_icmp .ge 7, 3), (10, .iconst 1, 1), (11, .goto 4, 3), (14, .iconst 0, 1), (15, .ireturn, 1)]
def ab_c7 : List (Nat × Instr × Nat) := ab_c7_0
def ab_y7 : MethodName := ⟨"AbsentPost", "isRow", "(I)Z"⟩
-- 8: AbsentPost.find(I)I
def ab_c8_0 : List (Nat × Instr × Nat) := [(0, .aload_n 0, 1), (1, .iload_n 1, 1), (2, .putfield 284, 3), (5, .aload_n 0, 1), (6, .getfield 63, 3), (9, .iload_n 1, 1), (10, .dup2, 1), (11, .iaload, 1), (12, .iconst 1, 1), (13, .iadd, 1), (14, .iastore, 1), (15, .bipush (-3), 2), (17, .ireturn, 1)]
def ab_c8 : List (Nat × Instr × Nat) := ab_c8_0
def ab_y8 : MethodName := ⟨"AbsentPost", "find", "(I)I"⟩
-- 9: AbsentPost.lay(III)I
def ab_c9_0 : List (Nat × Instr × Nat) := [(0, .aload_n 0, 1), (1, .iload_n 1, 1), (2, .iload_n 2, 1), (3, .invokevirtual 78, 3), (6, .istore 4, 2), (8, .iload 4, 2), (10, .ifCond .eq 6, 3), (13, .iload 4, 2), (15, .ireturn, 1), (16, .aload_n 0, 1), (17, .aload_n 0, 1), (18, .getfield 11, 3), (21, .iload_n 1, 1), (22, .aaload, 1), (23, .iload_n 2, 1), (24, .iaload, 1), (25, .putfield 82, 3), (28, .aload_n 0, 1), (29, .getfield 11, 3), (32, .iload_n 1, 1), (33, .aaload, 1), (34, .iload_n 2, 1), (35, .iload_n 3, 1), (36, .iastore, 1), (37, .iconst 1, 1), (38, .ireturn, 1)]
def ab_c9 : List (Nat × Instr × Nat) := ab_c9_0
def ab_y9 : MethodName := ⟨"AbsentPost", "lay", "(III)I"⟩
-- 10: AbsentPost.refusePlace(II)I
def ab_c10_0 : List (Nat × Instr × Nat) := [(0, .iload_n 1, 1), (1, .invokestatic 70, 3), (4, .ifCond .ne 5, 3), (7, .iconst (-1), 1), (8, .ireturn, 1), (9, .aload_n 0, 1), (10, .getfield 14, 3), (13, .iload_n 1, 1), (14, .iaload, 1), (15, .ifCond .ge 9, 3), (18, .aload_n 0, 1), (19, .iconst 1, 1), (20, .invokevirtual 74, 3), (23, .ireturn, 1), (24, .iload_n 2, 1), (25, .ifCond .lt 13, 3), (28, .iload_n 2, 1), (29, .aload_n 0, 1), (30, .getfield 14, 3), (33, .iload_n 1, 1), (34, .iaload, 1), (35, .if_icmp .lt 9, 3), (38, .aload_n 0, 1), (39, .iconst 2, 1), (40, .invokevirtual 74, 3), (43, .ireturn, 1), (44, .iconst 0, 1), (45, .ireturn, 1)]
def ab_c10 : List (Nat × Instr × Nat) := ab_c10_0
def ab_y10 : MethodName := ⟨"AbsentPost", "refusePlace", "(II)I"⟩
-- 11: AbsentPost.at(II)I
def ab_c11_0 : List (Nat × Instr × Nat) := [(0, .aload_n 0, 1), (1, .iload_n 1, 1), (2, .iload_n 2, 1), (3, .invokevirtual 78, 3), (6, .istore_n 3, 1), (7, .iload_n 3, 1), (8, .ifCond .eq 5, 3), (11, .iload_n 3, 1), (12, .ireturn, 1), (13, .aload_n 0, 1), (14, .aload_n 0, 1), (15, .getfield 11, 3), (18, .iload_n 1, 1), (19, .aaload, 1), (20, .iload_n 2, 1), (21, .iaload, 1), (22, .putfield 82, 3), (25, .iconst 1, 1), (26, .ireturn, 1)]
def ab_c11 : List (Nat × Instr × Nat) := ab_c11_0
def ab_y11 : MethodName := ⟨"AbsentPost", "at", "(II)I"⟩
-- 12: AbsentPost.tear(I)I
def ab_c12_0 : List (Nat × Instr × Nat) := [(0, .iload_n 1, 1), (1, .invokestatic 70, 3), (4, .ifCond .ne 5, 3), (7, .iconst (-1), 1), (8, .ireturn, 1), (9, .aload_n 0, 1), (10, .getfield 14, 3), (13, .iload_n 1, 1), (14, .iaload, 1), (15, .ifCond .ge 9, 3), (18, .aload_n 0, 1), (19, .iconst 1, 1), (20, .invokevirtual 74, 3), (23, .ireturn, 1), (24, .aload_n 0, 1), (25, .getfield 14, 3), (28, .iload_n 1, 1), (29, .iconst (-1), 1), (30, .iastore, 1), (31, .iconst 1, 1), (32, .ireturn, 1)]
def ab_c12 : List (Nat × Instr × Nat) := ab_c12_0
def ab_y12 : MethodName := ⟨"AbsentPost", "tear", "(I)I"⟩
-- 13: AbsentPost.copy(IIIII)I
def ab_c13_0 : List (Nat × Instr × Nat) := [(0, .iload_n 1, 1), (1, .invokestatic 70, 3), (4, .ifCond .eq 10, 3), (7, .iload_n 3, 1), (8, .invokestatic 70, 3), (11, .ifCond .ne 5, 3), (14, .iconst (-1), 1), (15, .ireturn, 1), (16, .iload 5, 2), (18, .ifCond .ge 9, 3), (21, .aload_n 0, 1), (22, .iconst 5, 1), (23, .invokevirtual 74, 3), (26, .ireturn, 1), (27, .aload_n 0, 1), (28, .getfield 14, 3), (31, .iload_n 1, 1), (32, .iaload, 1), (33, .ifCond .lt 12, 3), (36, .aload_n 0, 1), (37, .getfield 14, 3), (40, .iload_n 3, 1), (41, .iaload, 1), (42, .ifCond .ge 9, 3), (45, .aload_n 0, 1), (46, .iconst 1, 1), (47, .invokevirtual 74, 3), (50, .ireturn, 1), (51, .aload_n 0, 1), (52, .getfield 14, 3), (55, .iload_n 1, 1), (56, .iaload, 1), (57, .iload_n 2, 1), (58, .iload 5, 2), (60, .invokestatic 86, 3), (63, .ifCond .eq 19, 3), (66, .aload_n 0, 1), (67, .getfield 14, 3), (70, .iload_n 3, 1), (71, .iaload, 1)]
def ab_c13_1 : List (Nat × Instr × Nat) := [(72, .iload 4, 2), (74, .iload 5, 2), (76, .invokestatic 86, 3), (79, .ifCond .ne 9, 3), (82, .aload_n 0, 1), (83, .iconst 2, 1), (84, .invokevirtual 74, 3), (87, .ireturn, 1), (88, .aload_n 0, 1), (89, .getfield 11, 3), (92, .iload_n 1, 1), (93, .aaload, 1), (94, .iload_n 2, 1), (95, .aload_n 0, 1), (96, .getfield 11, 3), (99, .iload_n 3, 1), (100, .aaload, 1), (101, .iload 4, 2), (103, .iload 5, 2), (105, .invokestatic 90, 3), (108, .iconst 1, 1), (109, .ireturn, 1)]
def ab_c13 : List (Nat × Instr × Nat) := ab_c13_0 ++ ab_c13_1
def ab_y13 : MethodName := ⟨"AbsentPost", "copy", "(IIIII)I"⟩
-- 14: AbsentPost.hasPlaces(III)Z
def ab_c14_0 : List (Nat × Instr × Nat) := [(0, .iload_n 1, 1), (1, .ifCond .lt 19, 3), (4, .iload_n 2, 1), (5, .iload_n 0, 1), (6, .if_icmp .gt 14, 3), (9, .iload_n 1, 1), (10, .iload_n 0, 1), (11, .iload_n 2, 1), (12, .isub, 1), (13, .if_icmp .gt 7, 3), (16, .iconst 1, 1), (17, .goto 4, 3), (20, .iconst 0, 1), (21, .ireturn, 1)]
def ab_c14 : List (Nat × Instr × Nat) := ab_c14_0
def ab_y14 : MethodName := ⟨"AbsentPost", "hasPlaces", "(III)Z"⟩
-- 15: AbsentPost.mean(I)I
def ab_c15_0 : List (Nat × Instr × Nat) := [(0, .iload_n 1, 1), (1, .invokestatic 70, 3), (4, .ifCond .ne 5, 3), (7, .iconst (-1), 1), (8, .ireturn, 1), (9, .aload_n 0, 1), (10, .getfield 14, 3), (13, .iload_n 1, 1), (14, .iaload, 1), (15, .istore_n 2, 1), (16, .iload_n 2, 1), (17, .ifCond .ge 9, 3), (20, .aload_n 0, 1), (21, .iconst 1, 1), (22, .invokevirtual 74, 3), (25, .ireturn, 1), (26, .iload_n 2, 1), (27, .ifCond .ne 9, 3), (30, .aload_n 0, 1), (31, .iconst 4, 1), (32, .invokevirtual 74, 3), (35, .ireturn, 1), (36, .lconst 0, 1), (37, .lstore_n 3, 1), (38, .iconst 0, 1), (39, .istore 5, 2), (41, .iload 5, 2), (43, .iload_n 2, 1), (44, .if_icmp .ge 22, 3), (47, .lload_n 3, 1), (48, .aload_n 0, 1), (49, .getfield 11, 3), (52, .iload_n 1, 1), (53, .aaload, 1), (54, .iload 5, 2), (56, .iaload, 1), (57, .i2l, 1), (58, .ladd, 1), (59, .lstore_n 3, 1), (60, .iinc 5 1, 3)]
def ab_c15_1 : List (Nat × Instr × Nat) := [(63, .goto (-22), 3), (66, .aload_n 0, 1), (67, .lload_n 3, 1), (68, .iload_n 2, 1), (69, .i2l, 1), (70, .ldiv, 1), (71, .l2i, 1), (72, .putfield 82, 3), (75, .iconst 1, 1), (76, .ireturn, 1)]
def ab_c15 : List (Nat × Instr × Nat) := ab_c15_0 ++ ab_c15_1
def ab_y15 : MethodName := ⟨"AbsentPost", "mean", "(I)I"⟩
-- 16: AbsentPost.text(II)I
def ab_c16_0 : List (Nat × Instr × Nat) := [(0, .iload_n 1, 1), (1, .invokestatic 96, 3), (4, .ifCond .eq 9, 3), (7, .iload_n 2, 1), (8, .bipush 60, 2), (10, .if_icmp .le 5, 3), (13, .iconst (-1), 1), (14, .ireturn, 1), (15, .iload_n 2, 1), (16, .ifCond .ge 9, 3), (19, .aload_n 0, 1), (20, .iconst 5, 1), (21, .invokevirtual 74, 3), (24, .ireturn, 1), (25, .aload_n 0, 1), (26, .getfield 26, 3), (29, .iload_n 1, 1), (30, .aaload, 1), (31, .bipush 32, 2), (33, .invokestatic 99, 3), (36, .aload_n 0, 1), (37, .getfield 29, 3), (40, .iload_n 1, 1), (41, .iload_n 2, 1), (42, .iastore, 1), (43, .iload_n 2, 1), (44, .ireturn, 1)]
def ab_c16 : List (Nat × Instr × Nat) := ab_c16_0
def ab_y16 : MethodName := ⟨"AbsentPost", "text", "(II)I"⟩
-- 17: AbsentPost.isText(I)Z
def ab_c17_0 : List (Nat × Instr × Nat) := [(0, .iload_n 0, 1), (1, .ifCond .lt 12, 3), (4, .iload_n 0, 1), (5, .iconst 4, 1), (6, .if_icmp .ge 7, 3), (9, .iconst 1, 1), (10, .goto 4, 3), (13, .iconst 0, 1), (14, .ireturn, 1)]
def ab_c17 : List (Nat × Instr × Nat) := ab_c17_0
def ab_y17 : MethodName := ⟨"AbsentPost", "isText", "(I)Z"⟩
-- 18: java/util/Arrays.fill([BB)V
def ab_c18_0 : List (Nat × Instr × Nat) := [(0, .iconst 0, 1), (1, .istore_n 2, 1), (2, .aload_n 0, 1), (3, .arraylength, 1), (4, .istore_n 3, 1), (5, .iload_n 2, 1), (6, .iload_n 3, 1), (7, .if_icmp .ge 13, 3), (10, .aload_n 0, 1), (11, .iload_n 2, 1), (12, .iload_n 1, 1), (13, .bastore, 1), (14, .iinc 2 1, 3), (17, .goto (-12), 3), (20, .return_, 1)]
def ab_c18 : List (Nat × Instr × Nat) := ab_c18_0
def ab_y18 : MethodName := ⟨"java/util/Arrays", "fill", "([BB)V"⟩
-- 19: AbsentPost.put(III)I
def ab_c19_0 : List (Nat × Instr × Nat) := [(0, .iload_n 1, 1), (1, .invokestatic 96, 3), (4, .ifCond .ne 5, 3), (7, .iconst (-1), 1), (8, .ireturn, 1), (9, .aload_n 0, 1), (10, .getfield 29, 3), (13, .iload_n 1, 1), (14, .iaload, 1), (15, .ifCond .ge 9, 3), (18, .aload_n 0, 1), (19, .iconst 1, 1), (20, .invokevirtual 74, 3), (23, .ireturn, 1), (24, .iload_n 2, 1), (25, .ifCond .lt 13, 3), (28, .iload_n 2, 1), (29, .aload_n 0, 1), (30, .getfield 29, 3), (33, .iload_n 1, 1), (34, .iaload, 1), (35, .if_icmp .lt 9, 3), (38, .aload_n 0, 1), (39, .iconst 2, 1), (40, .invokevirtual 74, 3), (43, .ireturn, 1), (44, .aload_n 0, 1), (45, .getfield 26, 3), (48, .iload_n 1, 1), (49, .aaload, 1), (50, .iload_n 2, 1), (51, .baload, 1), (52, .istore 4, 2), (54, .aload_n 0, 1), (55, .getfield 26, 3), (58, .iload_n 1, 1), (59, .aaload, 1), (60, .iload_n 2, 1), (61, .iload_n 3, 1), (62, .i2b, 1)]
def ab_c19_1 : List (Nat × Instr × Nat) := [(63, .bastore, 1), (64, .iload 4, 2), (66, .sipush 1000, 3), (69, .iadd, 1), (70, .ireturn, 1)]
def ab_c19 : List (Nat × Instr × Nat) := ab_c19_0 ++ ab_c19_1
def ab_y19 : MethodName := ⟨"AbsentPost", "put", "(III)I"⟩
-- 20: AbsentPost.fault(I)I
def ab_c20_0 : List (Nat × Instr × Nat) := [(0, .iload_n 1, 1), (1, .invokestatic 96, 3), (4, .ifCond .ne 5, 3), (7, .iconst (-1), 1), (8, .ireturn, 1), (9, .aload_n 0, 1), (10, .getfield 29, 3), (13, .iload_n 1, 1), (14, .iaload, 1), (15, .ifCond .ge 9, 3), (18, .aload_n 0, 1), (19, .iconst 1, 1), (20, .invokevirtual 74, 3), (23, .ireturn, 1), (24, .aload_n 0, 1), (25, .getfield 26, 3), (28, .iload_n 1, 1), (29, .aaload, 1), (30, .aload_n 0, 1), (31, .getfield 29, 3), (34, .iload_n 1, 1), (35, .iaload, 1), (36, .invokestatic 102, 3), (39, .ireturn, 1)]
def ab_c20 : List (Nat × Instr × Nat) := ab_c20_0
def ab_y20 : MethodName := ⟨"AbsentPost", "fault", "(I)I"⟩
-- 21: AbsentPost.firstFault([BI)I
def ab_c21_0 : List (Nat × Instr × Nat) := [(0, .iconst 0, 1), (1, .istore_n 2, 1), (2, .iconst 0, 1), (3, .istore_n 3, 1), (4, .iconst 0, 1), (5, .istore 4, 2), (7, .iconst 0, 1), (8, .istore 5, 2), (10, .iload 5, 2), (12, .iload_n 1, 1), (13, .if_icmp .ge 88, 3), (16, .aload_n 0, 1), (17, .iload 5, 2), (19, .baload, 1), (20, .istore 6, 2), (22, .iload_n 3, 1), (23, .ifCond .ne 40, 3), (26, .iload 6, 2), (28, .bipush 32, 2), (30, .if_icmp .ne 6, 3), (33, .goto 62, 3), (36, .iload_n 2, 1), (37, .bipush 6, 2), (39, .if_icmp .eq 13, 3), (42, .iload 6, 2), (44, .invokestatic 300, 3), (47, .bipush (-9), 2), (49, .if_icmp .ne 6, 3), (52, .iload 5, 2), (54, .ireturn, 1), (55, .iinc 2 1, 3), (58, .iconst 1, 1), (59, .istore_n 3, 1), (60, .goto 35, 3), (63, .iload 6, 2), (65, .iload_n 3, 1), (66, .iload 4, 2), (68, .invokestatic 303, 3), (71, .ifCond .ne 6, 3), (74, .iload 5, 2)]
def ab_c21_1 : List (Nat × Instr × Nat) := [(76, .ireturn, 1), (77, .iload_n 3, 1), (78, .iconst 1, 1), (79, .if_icmp .ne 10, 3), (82, .iload 6, 2), (84, .bipush 48, 2), (86, .isub, 1), (87, .istore 4, 2), (89, .iload_n 3, 1), (90, .iconst 1, 1), (91, .iadd, 1), (92, .iconst 5, 1), (93, .irem, 1), (94, .istore_n 3, 1), (95, .iinc 5 1, 3), (98, .goto (-88), 3), (101, .iload_n 3, 1), (102, .ifCond .ne 7, 3), (105, .iload_n 2, 1), (106, .ifCond .ne 7, 3), (109, .iload_n 1, 1), (110, .goto 5, 3), (113, .bipush (-9), 2), (115, .ireturn, 1)]
def ab_c21 : List (Nat × Instr × Nat) := ab_c21_0 ++ ab_c21_1
def ab_y21 : MethodName := ⟨"AbsentPost", "firstFault", "([BI)I"⟩
-- 22: AbsentPost.kindByLetter(I)I
def ab_c22_0 : List (Nat × Instr × Nat) := [(0, .iconst 0, 1), (1, .istore_n 1, 1), (2, .iload_n 1, 1), (3, .bipush 6, 2), (5, .if_icmp .ge 20, 3), (8, .getstatic 297, 3), (11, .iload_n 1, 1), (12, .iaload, 1), (13, .iload_n 0, 1), (14, .if_icmp .ne 5, 3), (17, .iload_n 1, 1), (18, .ireturn, 1), (19, .iinc 1 1, 3), (22, .goto (-20), 3), (25, .bipush (-9), 2), (27, .ireturn, 1)]
def ab_c22 : List (Nat × Instr × Nat) := ab_c22_0
def ab_y22 : MethodName := ⟨"AbsentPost", "kindByLetter", "(I)I"⟩
-- 23: AbsentPost.isFigure(III)Z
def ab_c23_0 : List (Nat × Instr × Nat) := [(0, .iload_n 0, 1), (1, .bipush 48, 2), (3, .if_icmp .lt 9, 3), (6, .iload_n 0, 1), (7, .bipush 57, 2), (9, .if_icmp .le 5, 3), (12, .iconst 0, 1), (13, .ireturn, 1), (14, .iload_n 0, 1), (15, .bipush 48, 2), (17, .isub, 1), (18, .istore_n 3, 1), (19, .iload_n 1, 1), (20, .iconst 1, 1), (21, .if_icmp .ne 14, 3), (24, .iload_n 3, 1), (25, .iconst 1, 1), (26, .if_icmp .gt 7, 3), (29, .iconst 1, 1), (30, .goto 4, 3), (33, .iconst 0, 1), (34, .ireturn, 1), (35, .iload_n 1, 1), (36, .iconst 2, 1), (37, .if_icmp .ne 14, 3), (40, .iload_n 2, 1), (41, .bipush 10, 2), (43, .imul, 1), (44, .iload_n 3, 1), (45, .iadd, 1), (46, .bipush 12, 2), (48, .if_icmp .ge 7, 3), (51, .iconst 1, 1), (52, .goto 4, 3), (55, .iconst 0, 1), (56, .ireturn, 1)]
def ab_c23 : List (Nat × Instr × Nat) := ab_c23_0
def ab_y23 : MethodName := ⟨"AbsentPost", "isFigure", "(III)Z"⟩
-- 24: AbsentPost.post(I)I
def ab_c24_0 : List (Nat × Instr × Nat) := [(0, .iload_n 1, 1), (1, .invokestatic 96, 3), (4, .ifCond .ne 5, 3), (7, .iconst (-1), 1), (8, .ireturn, 1), (9, .aload_n 0, 1), (10, .getfield 29, 3), (13, .iload_n 1, 1), (14, .iaload, 1), (15, .ifCond .ge 9, 3), (18, .aload_n 0, 1), (19, .iconst 1, 1), (20, .invokevirtual 74, 3), (23, .ireturn, 1), (24, .aload_n 0, 1), (25, .getfield 26, 3), (28, .iload_n 1, 1), (29, .aaload, 1), (30, .aload_n 0, 1), (31, .getfield 29, 3), (34, .iload_n 1, 1), (35, .iaload, 1), (36, .invokestatic 102, 3), (39, .bipush (-9), 2), (41, .if_icmp .eq 6, 3), (44, .bipush (-4), 2), (46, .ireturn, 1), (47, .aload_n 0, 1), (48, .getfield 35, 3), (51, .aload_n 0, 1), (52, .getfield 26, 3), (55, .iload_n 1, 1), (56, .aaload, 1), (57, .aload_n 0, 1), (58, .getfield 29, 3), (61, .iload_n 1, 1), (62, .iaload, 1), (63, .invokevirtual 106, 3), (66, .iconst 0, 1), (67, .istore_n 2, 1)]
def ab_c24_1 : List (Nat × Instr × Nat) := [(68, .iload_n 2, 1), (69, .iconst 3, 1), (70, .if_icmp .ge 19, 3), (73, .aload_n 0, 1), (74, .getfield 39, 3), (77, .iload_n 2, 1), (78, .aaload, 1), (79, .iconst 0, 1), (80, .putfield 110, 3), (83, .iinc 2 1, 3), (86, .goto (-18), 3), (89, .aload_n 0, 1), (90, .getfield 35, 3), (93, .getfield 110, 3), (96, .ireturn, 1)]
def ab_c24 : List (Nat × Instr × Nat) := ab_c24_0 ++ ab_c24_1
def ab_y24 : MethodName := ⟨"AbsentPost", "post", "(I)I"⟩
-- 25: AbsentPost$Post.readFrom([BI)V
def ab_c25_0 : List (Nat × Instr × Nat) := [(0, .aload_n 0, 1), (1, .iconst 0, 1), (2, .putfield 34, 3), (5, .iconst 0, 1), (6, .istore_n 3, 1), (7, .iload_n 3, 1), (8, .iconst 5, 1), (9, .iadd, 1), (10, .iload_n 2, 1), (11, .if_icmp .gt 118, 3), (14, .aload_n 0, 1), (15, .getfield 34, 3), (18, .bipush 6, 2), (20, .if_icmp .ge 109, 3), (23, .aload_n 1, 1), (24, .iload_n 3, 1), (25, .baload, 1), (26, .bipush 32, 2), (28, .if_icmp .ne 9, 3), (31, .iinc 3 1, 3), (34, .goto (-27), 3), (37, .aload_n 1, 1), (38, .iload_n 3, 1), (39, .iconst 1, 1), (40, .iadd, 1), (41, .baload, 1), (42, .bipush 48, 2), (44, .isub, 1), (45, .bipush 10, 2), (47, .imul, 1), (48, .aload_n 1, 1), (49, .iload_n 3, 1), (50, .iconst 2, 1), (51, .iadd, 1), (52, .baload, 1), (53, .iadd, 1), (54, .bipush 48, 2), (56, .isub, 1), (57, .istore 4, 2), (59, .aload_n 0, 1)]
def ab_c25_1 : List (Nat × Instr × Nat) := [(60, .getfield 9, 3), (63, .aload_n 0, 1), (64, .getfield 34, 3), (67, .aload_n 1, 1), (68, .iload_n 3, 1), (69, .baload, 1), (70, .invokestatic 38, 3), (73, .iastore, 1), (74, .aload_n 0, 1), (75, .getfield 15, 3), (78, .aload_n 0, 1), (79, .getfield 34, 3), (82, .iload 4, 2), (84, .aload_n 1, 1), (85, .iload_n 3, 1), (86, .iconst 3, 1), (87, .iadd, 1), (88, .baload, 1), (89, .bipush 48, 2), (91, .isub, 1), (92, .invokestatic 42, 3), (95, .iastore, 1), (96, .aload_n 0, 1), (97, .getfield 18, 3), (100, .aload_n 0, 1), (101, .getfield 34, 3), (104, .aload_n 1, 1), (105, .iload_n 3, 1), (106, .iconst 4, 1), (107, .iadd, 1), (108, .baload, 1), (109, .bipush 48, 2), (111, .isub, 1), (112, .iastore, 1), (113, .aload_n 0, 1), (114, .dup, 1), (115, .getfield 34, 3), (118, .iconst 1, 1), (119, .iadd, 1), (120, .putfield 34, 3)]
def ab_c25_2 : List (Nat × Instr × Nat) := [(123, .iinc 3 5, 3), (126, .goto (-119), 3), (129, .aload_n 0, 1), (130, .invokevirtual 46, 3), (133, .return_, 1)]
def ab_c25 : List (Nat × Instr × Nat) := ab_c25_0 ++ ab_c25_1 ++ ab_c25_2
def ab_y25 : MethodName := ⟨"AbsentPost$Post", "readFrom", "([BI)V"⟩
-- 26: AbsentPost.hoursFrom(II)I
def ab_c26_0 : List (Nat × Instr × Nat) := [(0, .iconst 1, 1), (1, .iload_n 1, 1), (2, .ishl, 1), (3, .iconst 1, 1), (4, .isub, 1), (5, .iload_n 0, 1), (6, .ishl, 1), (7, .sipush 4095, 3), (10, .iand, 1), (11, .ireturn, 1)]
def ab_c26 : List (Nat × Instr × Nat) := ab_c26_0
def ab_y26 : MethodName := ⟨"AbsentPost", "hoursFrom", "(II)I"⟩
-- 27: AbsentPost$Post.startAnew()V
def ab_c27_0 : List (Nat × Instr × Nat) := [(0, .aload_n 0, 1), (1, .getfield 18, 3), (4, .iconst 0, 1), (5, .aload_n 0, 1), (6, .getfield 21, 3), (9, .iconst 0, 1), (10, .bipush 6, 2), (12, .invokestatic 49, 3), (15, .aload_n 0, 1), (16, .getfield 24, 3), (19, .iconst 0, 1), (20, .invokestatic 55, 3), (23, .aload_n 0, 1), (24, .getfield 27, 3), (27, .iconst 0, 1), (28, .invokestatic 55, 3), (31, .aload_n 0, 1), (32, .iconst 0, 1), (33, .putfield 61, 3), (36, .aload_n 0, 1), (37, .iconst 0, 1), (38, .putfield 64, 3), (41, .return_, 1)]
def ab_c27 : List (Nat × Instr × Nat) := ab_c27_0
def ab_y27 : MethodName := ⟨"AbsentPost$Post", "startAnew", "()V"⟩
-- 28: AbsentPost.house(II)I
def ab_c28_0 : List (Nat × Instr × Nat) := [(0, .aload_n 0, 1), (1, .iload_n 1, 1), (2, .invokevirtual 113, 3), (5, .ifCond .eq 12, 3), (8, .iload_n 2, 1), (9, .ifCond .lt 8, 3), (12, .iload_n 2, 1), (13, .iconst 5, 1), (14, .if_icmp .lt 5, 3), (17, .iconst (-1), 1), (18, .ireturn, 1), (19, .aload_n 0, 1), (20, .aload_n 0, 1), (21, .getfield 35, 3), (24, .iload_n 1, 1), (25, .iload_n 2, 1), (26, .invokevirtual 116, 3), (29, .putfield 82, 3), (32, .iconst 1, 1), (33, .ireturn, 1)]
def ab_c28 : List (Nat × Instr × Nat) := ab_c28_0
def ab_y28 : MethodName := ⟨"AbsentPost", "house", "(II)I"⟩
-- 29: AbsentPost.isHouse(I)Z
def ab_c29_0 : List (Nat × Instr × Nat) := [(0, .iload_n 1, 1), (1, .ifCond .lt 18, 3), (4, .iload_n 1, 1), (5, .aload_n 0, 1), (6, .getfield 35, 3), (9, .getfield 110, 3), (12, .if_icmp .ge 7, 3), (15, .iconst 1, 1), (16, .goto 4, 3), (19, .iconst 0, 1), (20, .ireturn, 1)]
def ab_c29 : List (Nat × Instr × Nat) := ab_c29_0
def ab_y29 : MethodName := ⟨"AbsentPost", "isHouse", "(I)Z"⟩
-- 30: AbsentPost$Post.tells(II)I
def ab_c30_0 : List (Nat × Instr × Nat) := [(0, .iload_n 2, 1), (1, .tableswitch 57 0 3 #[31, 38, 44, 51], 31), (32, .aload_n 0, 1), (33, .getfield 9, 3), (36, .iload_n 1, 1), (37, .iaload, 1), (38, .ireturn, 1), (39, .aload_n 0, 1), (40, .iload_n 1, 1), (41, .invokevirtual 67, 3), (44, .ireturn, 1), (45, .aload_n 0, 1), (46, .getfield 21, 3), (49, .iload_n 1, 1), (50, .iaload, 1), (51, .ireturn, 1), (52, .aload_n 0, 1), (53, .iload_n 1, 1), (54, .invokevirtual 74, 3), (57, .ireturn, 1), (58, .aload_n 0, 1), (59, .getfield 24, 3), (62, .iload_n 1, 1), (63, .iaload, 1), (64, .ireturn, 1)]
def ab_c30 : List (Nat × Instr × Nat) := ab_c30_0
def ab_y30 : MethodName := ⟨"AbsentPost$Post", "tells", "(II)I"⟩
-- 31: AbsentPost$Post.outHours(I)I
def ab_c31_0 : List (Nat × Instr × Nat) := [(0, .aload_n 0, 1), (1, .getfield 15, 3), (4, .iload_n 1, 1), (5, .iaload, 1), (6, .aload_n 0, 1), (7, .getfield 27, 3), (10, .iload_n 1, 1), (11, .iaload, 1), (12, .ior, 1), (13, .ireturn, 1)]
def ab_c31 : List (Nat × Instr × Nat) := ab_c31_0
def ab_y31 : MethodName := ⟨"AbsentPost$Post", "outHours", "(I)I"⟩
-- 32: AbsentPost$Post.emptyHours(I)I
def ab_c32_0 : List (Nat × Instr × Nat) := [(0, .aload_n 0, 1), (1, .getfield 9, 3), (4, .iload_n 1, 1), (5, .iaload, 1), (6, .aload_n 0, 1), (7, .iload_n 1, 1), (8, .invokevirtual 67, 3), (11, .aload_n 0, 1), (12, .getfield 27, 3), (15, .iload_n 1, 1), (16, .iaload, 1), (17, .invokestatic 70, 3), (20, .ireturn, 1)]
def ab_c32 : List (Nat × Instr × Nat) := ab_c32_0
def ab_y32 : MethodName := ⟨"AbsentPost$Post", "emptyHours", "(I)I"⟩
-- 33: AbsentPost.emptyBits(III)I
def ab_c33_0 : List (Nat × Instr × Nat) := [(0, .iload_n 1, 1), (1, .iload_n 1, 1), (2, .iconst 1, 1), (3, .ishl, 1), (4, .iconst 1, 1), (5, .ior, 1), (6, .iand, 1), (7, .istore_n 3, 1), (8, .iload_n 0, 1), (9, .tableswitch 61 1 5 #[35, 37, 51, 53, 55], 35), (44, .iload_n 2, 1), (45, .ireturn, 1), (46, .iload_n 1, 1), (47, .iload_n 1, 1), (48, .iconst 1, 1), (49, .ishl, 1), (50, .ior, 1), (51, .iload_n 1, 1), (52, .iconst 1, 1), (53, .ishr, 1), (54, .ior, 1), (55, .sipush 4095, 3), (58, .iand, 1), (59, .ireturn, 1), (60, .iload_n 3, 1), (61, .ireturn, 1), (62, .iconst 0, 1), (63, .ireturn, 1), (64, .iload_n 3, 1), (65, .sipush 1365, 3), (68, .ior, 1), (69, .ireturn, 1), (70, .iload_n 1, 1), (71, .ireturn, 1)]
def ab_c33 : List (Nat × Instr × Nat) := ab_c33_0
def ab_y33 : MethodName := ⟨"AbsentPost", "emptyBits", "(III)I"⟩
-- 34: AbsentPost.mark(II)I
def ab_c34_0 : List (Nat × Instr × Nat) := [(0, .aload_n 0, 1), (1, .iload_n 1, 1), (2, .invokevirtual 113, 3), (5, .ifCond .eq 13, 3), (8, .iload_n 2, 1), (9, .ifCond .le 9, 3), (12, .iload_n 2, 1), (13, .bipush 6, 2), (15, .if_icmp .lt 5, 3), (18, .iconst (-1), 1), (19, .ireturn, 1), (20, .aload_n 0, 1), (21, .getfield 35, 3), (24, .getfield 119, 3), (27, .iload_n 1, 1), (28, .iaload, 1), (29, .iload_n 2, 1), (30, .invokestatic 122, 3), (33, .ifCond .ne 9, 3), (36, .aload_n 0, 1), (37, .iconst 3, 1), (38, .invokevirtual 74, 3), (41, .ireturn, 1), (42, .aload_n 0, 1), (43, .getfield 35, 3), (46, .iload_n 1, 1), (47, .invokevirtual 126, 3), (50, .istore_n 3, 1), (51, .aload_n 0, 1), (52, .getfield 35, 3), (55, .iload_n 1, 1), (56, .invokevirtual 129, 3), (59, .istore 4, 2), (61, .iload_n 2, 1), (62, .tableswitch 72 1 4 #[30, 39, 49, 59], 30), (92, .aload_n 0, 1), (93, .getfield 35, 3), (96, .iload_n 1, 1), (97, .invokevirtual 132, 3), (100, .ireturn, 1)]
def ab_c34_1 : List (Nat × Instr × Nat) := [(101, .iload 4, 2), (103, .iload_n 3, 1), (104, .iconst (-1), 1), (105, .ixor, 1), (106, .iand, 1), (107, .invokestatic 135, 3), (110, .ireturn, 1), (111, .iload_n 3, 1), (112, .iload 4, 2), (114, .iconst (-1), 1), (115, .ixor, 1), (116, .iand, 1), (117, .invokestatic 135, 3), (120, .ireturn, 1), (121, .bipush 99, 2), (123, .aload_n 0, 1), (124, .getfield 35, 3), (127, .getfield 140, 3), (130, .iload_n 1, 1), (131, .iaload, 1), (132, .isub, 1), (133, .ireturn, 1), (134, .sipush 4095, 3), (137, .iload 4, 2), (139, .iconst (-1), 1), (140, .ixor, 1), (141, .iand, 1), (142, .invokestatic 143, 3), (145, .ireturn, 1)]
def ab_c34 : List (Nat × Instr × Nat) := ab_c34_0 ++ ab_c34_1
def ab_y34 : MethodName := ⟨"AbsentPost", "mark", "(II)I"⟩
-- 35: AbsentPost.isOfKind(II)Z
def ab_c35_0 : List (Nat × Instr × Nat) := [(0, .iload_n 0, 1), (1, .iload_n 1, 1), (2, .if_icmp .eq 23, 3), (5, .iload_n 0, 1), (6, .iconst 4, 1), (7, .if_icmp .ne 8, 3), (10, .iload_n 1, 1), (11, .iconst 1, 1), (12, .if_icmp .eq 13, 3), (15, .iload_n 0, 1), (16, .iconst 5, 1), (17, .if_icmp .ne 12, 3), (20, .iload_n 1, 1), (21, .iconst 3, 1), (22, .if_icmp .ne 7, 3), (25, .iconst 1, 1), (26, .goto 4, 3), (29, .iconst 0, 1), (30, .ireturn, 1)]
def ab_c35 : List (Nat × Instr × Nat) := ab_c35_0
def ab_y35 : MethodName := ⟨"AbsentPost", "isOfKind", "(II)Z"⟩
-- 36: AbsentPost$Post.dueAround(I)I
def ab_c36_0 : List (Nat × Instr × Nat) := [(0, .aload_n 0, 1), (1, .getfield 21, 3), (4, .iload_n 1, 1), (5, .iaload, 1), (6, .istore_n 2, 1), (7, .iload_n 1, 1), (8, .ifCond .le 14, 3), (11, .iload_n 2, 1), (12, .aload_n 0, 1), (13, .getfield 21, 3), (16, .iload_n 1, 1), (17, .iconst 1, 1), (18, .isub, 1), (19, .iaload, 1), (20, .iadd, 1), (21, .istore_n 2, 1), (22, .iload_n 1, 1), (23, .iconst 1, 1), (24, .iadd, 1), (25, .aload_n 0, 1), (26, .getfield 34, 3), (29, .if_icmp .ge 14, 3), (32, .iload_n 2, 1), (33, .aload_n 0, 1), (34, .getfield 21, 3), (37, .iload_n 1, 1), (38, .iconst 1, 1), (39, .iadd, 1), (40, .iaload, 1), (41, .iadd, 1), (42, .istore_n 2, 1), (43, .iload_n 2, 1), (44, .ireturn, 1)]
def ab_c36 : List (Nat × Instr × Nat) := ab_c36_0
def ab_y36 : MethodName := ⟨"AbsentPost$Post", "dueAround", "(I)I"⟩
-- 37: java/lang/Integer.bitCount(I)I
def ab_c37_0 : List (Nat × Instr × Nat) := [(0, .iload_n 0, 1), (1, .iload_n 0, 1), (2, .iconst 1, 1), (3, .iushr, 1), (4, .ldc_w 265, 3), (7, .iand, 1), (8, .isub, 1), (9, .istore_n 0, 1), (10, .iload_n 0, 1), (11, .ldc_w 266, 3), (14, .iand, 1), (15, .iload_n 0, 1), (16, .iconst 2, 1), (17, .iushr, 1), (18, .ldc_w 266, 3), (21, .iand, 1), (22, .iadd, 1), (23, .istore_n 0, 1), (24, .iload_n 0, 1), (25, .iload_n 0, 1), (26, .iconst 4, 1), (27, .iushr, 1), (28, .iadd, 1), (29, .ldc_w 267, 3), (32, .iand, 1), (33, .istore_n 0, 1), (34, .iload_n 0, 1), (35, .iload_n 0, 1), (36, .bipush 8, 2), (38, .iushr, 1), (39, .iadd, 1), (40, .istore_n 0, 1), (41, .iload_n 0, 1), (42, .iload_n 0, 1), (43, .bipush 16, 2), (45, .iushr, 1), (46, .iadd, 1), (47, .istore_n 0, 1), (48, .iload_n 0, 1), (49, .bipush 63, 2)]
def ab_c37_1 : List (Nat × Instr × Nat) := [(51, .iand, 1), (52, .ireturn, 1)]
def ab_c37 : List (Nat × Instr × Nat) := ab_c37_0 ++ ab_c37_1
def ab_y37 : MethodName := ⟨"java/lang/Integer", "bitCount", "(I)I"⟩
-- 38: AbsentPost.firstHour(I)I
def ab_c38_0 : List (Nat × Instr × Nat) := [(0, .iconst 0, 1), (1, .istore_n 1, 1), (2, .iload_n 1, 1), (3, .bipush 12, 2), (5, .if_icmp .ge 19, 3), (8, .iload_n 0, 1), (9, .iload_n 1, 1), (10, .invokestatic 149, 3), (13, .ifCond .eq 5, 3), (16, .iload_n 1, 1), (17, .ireturn, 1), (18, .iinc 1 1, 3), (21, .goto (-19), 3), (24, .bipush (-9), 2), (26, .ireturn, 1)]
def ab_c38 : List (Nat × Instr × Nat) := ab_c38_0
def ab_y38 : MethodName := ⟨"AbsentPost", "firstHour", "(I)I"⟩
-- 39: AbsentPost.hasBit(II)Z
def ab_c39_0 : List (Nat × Instr × Nat) := [(0, .iload_n 0, 1), (1, .iload_n 1, 1), (2, .ishr, 1), (3, .iconst 1, 1), (4, .iand, 1), (5, .ifCond .eq 7, 3), (8, .iconst 1, 1), (9, .goto 4, 3), (12, .iconst 0, 1), (13, .ireturn, 1)]
def ab_c39 : List (Nat × Instr × Nat) := ab_c39_0
def ab_y39 : MethodName := ⟨"AbsentPost", "hasBit", "(II)Z"⟩
-- 40: AbsentPost.errand(II)I
def ab_c40_0 : List (Nat × Instr × Nat) := [(0, .aload_n 0, 1), (1, .iload_n 1, 1), (2, .invokevirtual 113, 3), (5, .ifCond .eq 10, 3), (8, .iload_n 2, 1), (9, .invokestatic 146, 3), (12, .ifCond .ne 5, 3), (15, .iconst (-1), 1), (16, .ireturn, 1), (17, .aload_n 0, 1), (18, .getfield 35, 3), (21, .iload_n 1, 1), (22, .invokevirtual 126, 3), (25, .iload_n 2, 1), (26, .invokestatic 149, 3), (29, .ifCond .eq 6, 3), (32, .bipush (-4), 2), (34, .ireturn, 1), (35, .aload_n 0, 1), (36, .getfield 35, 3), (39, .getfield 152, 3), (42, .bipush 40, 2), (44, .if_icmp .lt 6, 3), (47, .bipush (-2), 2), (49, .ireturn, 1), (50, .aload_n 0, 1), (51, .getfield 35, 3), (54, .iload_n 1, 1), (55, .iload_n 2, 1), (56, .invokevirtual 155, 3), (59, .aload_n 0, 1), (60, .getfield 35, 3), (63, .iload_n 1, 1), (64, .invokevirtual 129, 3), (67, .invokestatic 135, 3), (70, .ireturn, 1)]
def ab_c40 : List (Nat × Instr × Nat) := ab_c40_0
def ab_y40 : MethodName := ⟨"AbsentPost", "errand", "(II)I"⟩
-- 41: AbsentPost.isHour(I)Z
def ab_c41_0 : List (Nat × Instr × Nat) := [(0, .iload_n 0, 1), (1, .ifCond .lt 13, 3), (4, .iload_n 0, 1), (5, .bipush 12, 2), (7, .if_icmp .ge 7, 3), (10, .iconst 1, 1), (11, .goto 4, 3), (14, .iconst 0, 1), (15, .ireturn, 1)]
def ab_c41 : List (Nat × Instr × Nat) := ab_c41_0
def ab_y41 : MethodName := ⟨"AbsentPost", "isHour", "(I)Z"⟩
-- 42: AbsentPost$Post.doErrand(II)V
def ab_c42_0 : List (Nat × Instr × Nat) := [(0, .aload_n 0, 1), (1, .getfield 27, 3), (4, .iload_n 1, 1), (5, .dup2, 1), (6, .iaload, 1), (7, .iconst 1, 1), (8, .iload_n 2, 1), (9, .ishl, 1), (10, .ior, 1), (11, .iastore, 1), (12, .aload_n 0, 1), (13, .getfield 30, 3), (16, .aload_n 0, 1), (17, .dup, 1), (18, .getfield 64, 3), (21, .dup_x1, 1), (22, .iconst 1, 1), (23, .iadd, 1), (24, .putfield 64, 3), (27, .iload_n 1, 1), (28, .bipush 12, 2), (30, .imul, 1), (31, .iload_n 2, 1), (32, .iadd, 1), (33, .iconst 1, 1), (34, .iadd, 1), (35, .ineg, 1), (36, .i2l, 1), (37, .lastore, 1), (38, .return_, 1)]
def ab_c42 : List (Nat × Instr × Nat) := ab_c42_0
def ab_y42 : MethodName := ⟨"AbsentPost$Post", "doErrand", "(II)V"⟩
-- 43: AbsentPost.walk(I)I
def ab_c43_0 : List (Nat × Instr × Nat) := [(0, .aload_n 0, 1), (1, .iload_n 1, 1), (2, .invokevirtual 159, 3), (5, .istore_n 2, 1), (6, .iload_n 2, 1), (7, .ifCond .eq 5, 3), (10, .iload_n 2, 1), (11, .ireturn, 1), (12, .aload_n 0, 1), (13, .getfield 35, 3), (16, .getfield 152, 3), (19, .bipush 40, 2), (21, .if_icmp .lt 6, 3), (24, .bipush (-2), 2), (26, .ireturn, 1), (27, .aload_n 0, 1), (28, .getfield 35, 3), (31, .aload_n 0, 1), (32, .getfield 46, 3), (35, .aload_n 0, 1), (36, .getfield 60, 3), (39, .invokevirtual 162, 3), (42, .ireturn, 1)]
def ab_c43 : List (Nat × Instr × Nat) := ab_c43_0
def ab_y43 : MethodName := ⟨"AbsentPost", "walk", "(I)I"⟩
-- 44: AbsentPost.refuseRound(I)I
def ab_c44_0 : List (Nat × Instr × Nat) := [(0, .iload_n 1, 1), (1, .invokestatic 70, 3), (4, .ifCond .ne 5, 3), (7, .iconst (-1), 1), (8, .ireturn, 1), (9, .aload_n 0, 1), (10, .getfield 35, 3), (13, .getfield 110, 3), (16, .ifCond .ne 6, 3), (19, .bipush (-4), 2), (21, .ireturn, 1), (22, .aload_n 0, 1), (23, .getfield 14, 3), (26, .iload_n 1, 1), (27, .iaload, 1), (28, .istore_n 2, 1), (29, .iload_n 2, 1), (30, .ifCond .ge 9, 3), (33, .aload_n 0, 1), (34, .iconst 1, 1), (35, .invokevirtual 74, 3), (38, .ireturn, 1), (39, .iload_n 2, 1), (40, .bipush 12, 2), (42, .if_icmp .le 9, 3), (45, .aload_n 0, 1), (46, .iconst 5, 1), (47, .invokevirtual 74, 3), (50, .ireturn, 1), (51, .iconst 0, 1), (52, .istore_n 3, 1), (53, .iload_n 3, 1), (54, .iload_n 2, 1), (55, .if_icmp .ge 30, 3), (58, .aload_n 0, 1), (59, .aload_n 0, 1), (60, .getfield 11, 3), (63, .iload_n 1, 1), (64, .aaload, 1), (65, .iload_n 3, 1)]
def ab_c44_1 : List (Nat × Instr × Nat) := [(66, .iaload, 1), (67, .invokevirtual 113, 3), (70, .ifCond .ne 9, 3), (73, .aload_n 0, 1), (74, .iconst 3, 1), (75, .invokevirtual 74, 3), (78, .ireturn, 1), (79, .iinc 3 1, 3), (82, .goto (-29), 3), (85, .aload_n 0, 1), (86, .getfield 46, 3), (89, .aload_n 0, 1), (90, .getfield 11, 3), (93, .iload_n 1, 1), (94, .aaload, 1), (95, .iload_n 2, 1), (96, .invokevirtual 294, 3), (99, .iconst 0, 1), (100, .ireturn, 1)]
def ab_c44 : List (Nat × Instr × Nat) := ab_c44_0 ++ ab_c44_1
def ab_y44 : MethodName := ⟨"AbsentPost", "refuseRound", "(I)I"⟩
-- 45: AbsentPost$Round.takeFrom([II)V
def ab_c45_0 : List (Nat × Instr × Nat) := [(0, .aload_n 0, 1), (1, .iload_n 2, 1), (2, .bipush 12, 2), (4, .invokestatic 15, 3), (7, .putfield 21, 3), (10, .aload_n 1, 1), (11, .iconst 0, 1), (12, .aload_n 0, 1), (13, .getfield 9, 3), (16, .iconst 0, 1), (17, .aload_n 0, 1), (18, .getfield 21, 3), (21, .invokestatic 25, 3), (24, .return_, 1)]
def ab_c45 : List (Nat × Instr × Nat) := ab_c45_0
def ab_y45 : MethodName := ⟨"AbsentPost$Round", "takeFrom", "([II)V"⟩
-- 46: java/lang/Math.min(II)I
def ab_c46_0 : List (Nat × Instr × Nat) := [(0, .iload_n 0, 1), (1, .iload_n 1, 1), (2, .if_icmp .gt 7, 3), (5, .iload_n 0, 1), (6, .goto 4, 3), (9, .iload_n 1, 1), (10, .ireturn, 1)]
def ab_c46 : List (Nat × Instr × Nat) := ab_c46_0
def ab_y46 : MethodName := ⟨"java/lang/Math", "min", "(II)I"⟩
-- 47: AbsentPost$Post.doRound(LAbsentPost$Round;[I)I
def ab_c47_0 : List (Nat × Instr × Nat) := [(0, .aload_n 0, 1), (1, .aload_n 2, 1), (2, .iconst 1, 1), (3, .invokevirtual 92, 3), (6, .iconst 0, 1), (7, .istore_n 3, 1), (8, .iload_n 3, 1), (9, .aload_n 0, 1), (10, .getfield 34, 3), (13, .if_icmp .ge 24, 3), (16, .aload_n 0, 1), (17, .getfield 24, 3), (20, .iload_n 3, 1), (21, .dup2, 1), (22, .iaload, 1), (23, .aload_n 0, 1), (24, .getfield 21, 3), (27, .iload_n 3, 1), (28, .iaload, 1), (29, .iadd, 1), (30, .iastore, 1), (31, .iinc 3 1, 3), (34, .goto (-26), 3), (37, .aload_n 1, 1), (38, .aload_n 0, 1), (39, .getfield 21, 3), (42, .aload_n 2, 1), (43, .invokevirtual 96, 3), (46, .istore_n 3, 1), (47, .iconst 0, 1), (48, .istore 4, 2), (50, .iload 4, 2), (52, .aload_n 0, 1), (53, .getfield 34, 3), (56, .if_icmp .ge 26, 3), (59, .aload_n 0, 1), (60, .getfield 24, 3), (63, .iload 4, 2), (65, .dup2, 1), (66, .iaload, 1)]
def ab_c47_1 : List (Nat × Instr × Nat) := [(67, .aload_n 0, 1), (68, .getfield 21, 3), (71, .iload 4, 2), (73, .iaload, 1), (74, .isub, 1), (75, .iastore, 1), (76, .iinc 4 1, 3), (79, .goto (-29), 3), (82, .aload_n 0, 1), (83, .aload_n 0, 1), (84, .getfield 21, 3), (87, .invokevirtual 102, 3), (90, .aload_n 0, 1), (91, .getfield 27, 3), (94, .iconst 0, 1), (95, .invokestatic 55, 3), (98, .aload_n 0, 1), (99, .dup, 1), (100, .getfield 61, 3), (103, .iconst 1, 1), (104, .iadd, 1), (105, .putfield 61, 3), (108, .aload_n 0, 1), (109, .getfield 30, 3), (112, .aload_n 0, 1), (113, .dup, 1), (114, .getfield 64, 3), (117, .dup_x1, 1), (118, .iconst 1, 1), (119, .iadd, 1), (120, .putfield 64, 3), (123, .aload_n 1, 1), (124, .invokevirtual 106, 3), (127, .lastore, 1), (128, .iload_n 3, 1), (129, .ireturn, 1)]
def ab_c47 : List (Nat × Instr × Nat) := ab_c47_0 ++ ab_c47_1
def ab_y47 : MethodName := ⟨"AbsentPost$Post", "doRound", "(LAbsentPost$Round;[I)I"⟩
-- 48: AbsentPost$Post.fillEmpty([IZ)V
def ab_c48_0 : List (Nat × Instr × Nat) := [(0, .iconst 0, 1), (1, .istore_n 3, 1), (2, .iload_n 3, 1), (3, .aload_n 0, 1), (4, .getfield 34, 3), (7, .if_icmp .ge 40, 3), (10, .aload_n 1, 1), (11, .iload_n 3, 1), (12, .iload_n 2, 1), (13, .ifCond .eq 11, 3), (16, .aload_n 0, 1), (17, .iload_n 3, 1), (18, .invokevirtual 74, 3), (21, .goto 19, 3), (24, .aload_n 0, 1), (25, .getfield 9, 3), (28, .iload_n 3, 1), (29, .iaload, 1), (30, .aload_n 0, 1), (31, .getfield 15, 3), (34, .iload_n 3, 1), (35, .iaload, 1), (36, .iconst 0, 1), (37, .invokestatic 70, 3), (40, .iastore, 1), (41, .iinc 3 1, 3), (44, .goto (-42), 3), (47, .return_, 1)]
def ab_c48 : List (Nat × Instr × Nat) := ab_c48_0
def ab_y48 : MethodName := ⟨"AbsentPost$Post", "fillEmpty", "([IZ)V"⟩
-- 49: AbsentPost$Round.bringTo([I[I)I
def ab_c49_0 : List (Nat × Instr × Nat) := [(0, .iconst 0, 1), (1, .istore_n 3, 1), (2, .iconst 0, 1), (3, .istore 4, 2), (5, .iconst 0, 1), (6, .istore 5, 2), (8, .iconst 0, 1), (9, .istore 6, 2), (11, .iload 6, 2), (13, .aload_n 0, 1), (14, .getfield 21, 3), (17, .if_icmp .ge 66, 3), (20, .aload_n 0, 1), (21, .getfield 9, 3), (24, .iload 6, 2), (26, .iaload, 1), (27, .istore 7, 2), (29, .iload 4, 2), (31, .iload 7, 2), (33, .iload 5, 2), (35, .isub, 1), (36, .invokestatic 31, 3), (39, .iadd, 1), (40, .istore 4, 2), (42, .iload 7, 2), (44, .istore 5, 2), (46, .iload 4, 2), (48, .bipush 12, 2), (50, .if_icmp .ge 27, 3), (53, .aload_n 2, 1), (54, .iload 7, 2), (56, .iaload, 1), (57, .iload 4, 2), (59, .invokestatic 35, 3), (62, .ifCond .eq 15, 3), (65, .iload_n 3, 1), (66, .aload_n 1, 1), (67, .iload 7, 2), (69, .iaload, 1), (70, .iadd, 1)]
def ab_c49_1 : List (Nat × Instr × Nat) := [(71, .istore_n 3, 1), (72, .aload_n 1, 1), (73, .iload 7, 2), (75, .iconst 0, 1), (76, .iastore, 1), (77, .iinc 6 1, 3), (80, .goto (-69), 3), (83, .iload_n 3, 1), (84, .ireturn, 1)]
def ab_c49 : List (Nat × Instr × Nat) := ab_c49_0 ++ ab_c49_1
def ab_y49 : MethodName := ⟨"AbsentPost$Round", "bringTo", "([I[I)I"⟩
-- 50: java/lang/Math.abs(I)I
def ab_c50_0 : List (Nat × Instr × Nat) := [(0, .iload_n 0, 1), (1, .ifCond .ge 8, 3), (4, .iload_n 0, 1), (5, .ineg, 1), (6, .goto 4, 3), (9, .iload_n 0, 1), (10, .ireturn, 1)]
def ab_c50 : List (Nat × Instr × Nat) := ab_c50_0
def ab_y50 : MethodName := ⟨"java/lang/Math", "abs", "(I)I"⟩
-- 51: AbsentPost$Post.addDaily([I)V
def ab_c51_0 : List (Nat × Instr × Nat) := [(0, .iconst 0, 1), (1, .istore_n 2, 1), (2, .iload_n 2, 1), (3, .aload_n 0, 1), (4, .getfield 34, 3), (7, .if_icmp .ge 32, 3), (10, .aload_n 0, 1), (11, .getfield 9, 3), (14, .iload_n 2, 1), (15, .iaload, 1), (16, .iconst 4, 1), (17, .if_icmp .eq 16, 3), (20, .aload_n 1, 1), (21, .iload_n 2, 1), (22, .aload_n 1, 1), (23, .iload_n 2, 1), (24, .iaload, 1), (25, .iconst 1, 1), (26, .iadd, 1), (27, .bipush 99, 2), (29, .invokestatic 87, 3), (32, .iastore, 1), (33, .iinc 2 1, 3), (36, .goto (-34), 3), (39, .return_, 1)]
def ab_c51 : List (Nat × Instr × Nat) := ab_c51_0
def ab_y51 : MethodName := ⟨"AbsentPost$Post", "addDaily", "([I)V"⟩
-- 52: AbsentPost$Round.pack()J
def ab_c52_0 : List (Nat × Instr × Nat) := [(0, .lconst 0, 1), (1, .lstore_n 1, 1), (2, .aload_n 0, 1), (3, .getfield 21, 3), (6, .iconst 1, 1), (7, .isub, 1), (8, .istore_n 3, 1), (9, .iload_n 3, 1), (10, .ifCond .lt 21, 3), (13, .lload_n 1, 1), (14, .iconst 3, 1), (15, .lshl, 1), (16, .aload_n 0, 1), (17, .getfield 9, 3), (20, .iload_n 3, 1), (21, .iaload, 1), (22, .i2l, 1), (23, .lor, 1), (24, .lstore_n 1, 1), (25, .iinc 3 (-1), 3), (28, .goto (-19), 3), (31, .lload_n 1, 1), (32, .iconst 4, 1), (33, .lshl, 1), (34, .aload_n 0, 1), (35, .getfield 21, 3), (38, .iconst 1, 1), (39, .iadd, 1), (40, .i2l, 1), (41, .lor, 1), (42, .lreturn, 1)]
def ab_c52 : List (Nat × Instr × Nat) := ab_c52_0
def ab_y52 : MethodName := ⟨"AbsentPost$Round", "pack", "()J"⟩
-- 53: AbsentPost.undo(I)I
def ab_c53_0 : List (Nat × Instr × Nat) := [(0, .iload_n 1, 1), (1, .ifCond .lt 14, 3), (4, .iload_n 1, 1), (5, .aload_n 0, 1), (6, .getfield 35, 3), (9, .getfield 152, 3), (12, .if_icmp .le 5, 3), (15, .iconst (-1), 1), (16, .ireturn, 1), (17, .aload_n 0, 1), (18, .getfield 35, 3), (21, .getfield 152, 3), (24, .iload_n 1, 1), (25, .isub, 1), (26, .istore_n 2, 1), (27, .aload_n 0, 1), (28, .getfield 35, 3), (31, .iload_n 1, 1), (32, .aload_n 0, 1), (33, .getfield 46, 3), (36, .aload_n 0, 1), (37, .getfield 60, 3), (40, .invokevirtual 166, 3), (43, .iload_n 2, 1), (44, .ireturn, 1)]
def ab_c53 : List (Nat × Instr × Nat) := ab_c53_0
def ab_y53 : MethodName := ⟨"AbsentPost", "undo", "(I)I"⟩
-- 54: AbsentPost$Post.goBackTo(ILAbsentPost$Round;[I)V
def ab_c54_0 : List (Nat × Instr × Nat) := [(0, .aload_n 0, 1), (1, .invokevirtual 46, 3), (4, .iconst 0, 1), (5, .istore 4, 2), (7, .iload 4, 2), (9, .iload_n 1, 1), (10, .if_icmp .ge 76, 3), (13, .iload 4, 2), (15, .bipush 40, 2), (17, .if_icmp .ge 69, 3), (20, .aload_n 0, 1), (21, .getfield 30, 3), (24, .iload 4, 2), (26, .laload, 1), (27, .lconst 0, 1), (28, .lcmp, 1), (29, .ifCond .ge 33, 3), (32, .aload_n 0, 1), (33, .getfield 30, 3), (36, .iload 4, 2), (38, .laload, 1), (39, .lneg, 1), (40, .l2i, 1), (41, .iconst 1, 1), (42, .isub, 1), (43, .istore 5, 2), (45, .aload_n 0, 1), (46, .iload 5, 2), (48, .bipush 12, 2), (50, .idiv, 1), (51, .iload 5, 2), (53, .bipush 12, 2), (55, .irem, 1), (56, .invokevirtual 110, 3), (59, .goto 21, 3), (62, .aload_n 2, 1), (63, .aload_n 0, 1), (64, .getfield 30, 3), (67, .iload 4, 2), (69, .laload, 1)]
def ab_c54_1 : List (Nat × Instr × Nat) := [(70, .invokevirtual 114, 3), (73, .aload_n 0, 1), (74, .aload_n 2, 1), (75, .aload_n 3, 1), (76, .invokevirtual 118, 3), (79, .pop, 1), (80, .iinc 4 1, 3), (83, .goto (-76), 3), (86, .return_, 1)]
def ab_c54 : List (Nat × Instr × Nat) := ab_c54_0 ++ ab_c54_1
def ab_y54 : MethodName := ⟨"AbsentPost$Post", "goBackTo", "(ILAbsentPost$Round;[I)V"⟩
-- 55: AbsentPost$Round.unpack(J)V
def ab_c55_0 : List (Nat × Instr × Nat) := [(0, .aload_n 0, 1), (1, .lload_n 1, 1), (2, .ldc2_w 42, 3), (5, .land, 1), (6, .l2i, 1), (7, .iconst 1, 1), (8, .isub, 1), (9, .iconst 0, 1), (10, .invokestatic 44, 3), (13, .bipush 12, 2), (15, .invokestatic 15, 3), (18, .putfield 21, 3), (21, .iconst 0, 1), (22, .istore_n 3, 1), (23, .iload_n 3, 1), (24, .aload_n 0, 1), (25, .getfield 21, 3), (28, .if_icmp .ge 30, 3), (31, .aload_n 0, 1), (32, .getfield 9, 3), (35, .iload_n 3, 1), (36, .lload_n 1, 1), (37, .iconst 4, 1), (38, .iconst 3, 1), (39, .iload_n 3, 1), (40, .imul, 1), (41, .iadd, 1), (42, .lshr, 1), (43, .ldc2_w 47, 3), (46, .land, 1), (47, .l2i, 1), (48, .bipush 6, 2), (50, .irem, 1), (51, .iastore, 1), (52, .iinc 3 1, 3), (55, .goto (-32), 3), (58, .return_, 1)]
def ab_c55 : List (Nat × Instr × Nat) := ab_c55_0
def ab_y55 : MethodName := ⟨"AbsentPost$Round", "unpack", "(J)V"⟩
-- 56: java/lang/Math.max(II)I
def ab_c56_0 : List (Nat × Instr × Nat) := [(0, .iload_n 0, 1), (1, .iload_n 1, 1), (2, .if_icmp .lt 7, 3), (5, .iload_n 0, 1), (6, .goto 4, 3), (9, .iload_n 1, 1), (10, .ireturn, 1)]
def ab_c56 : List (Nat × Instr × Nat) := ab_c56_0
def ab_y56 : MethodName := ⟨"java/lang/Math", "max", "(II)I"⟩
-- 57: AbsentPost.keep(I)I
def ab_c57_0 : List (Nat × Instr × Nat) := [(0, .iload_n 1, 1), (1, .invokestatic 170, 3), (4, .ifCond .ne 5, 3), (7, .iconst (-1), 1), (8, .ireturn, 1), (9, .aload_n 0, 1), (10, .getfield 35, 3), (13, .getfield 110, 3), (16, .ifCond .ne 6, 3), (19, .bipush (-4), 2), (21, .ireturn, 1), (22, .aload_n 0, 1), (23, .getfield 39, 3), (26, .iload_n 1, 1), (27, .aaload, 1), (28, .aload_n 0, 1), (29, .getfield 35, 3), (32, .invokevirtual 173, 3), (35, .aload_n 0, 1), (36, .getfield 35, 3), (39, .getfield 152, 3), (42, .ireturn, 1)]
def ab_c57 : List (Nat × Instr × Nat) := ab_c57_0
def ab_y57 : MethodName := ⟨"AbsentPost", "keep", "(I)I"⟩
-- 58: AbsentPost.isKept(I)Z
def ab_c58_0 : List (Nat × Instr × Nat) := [(0, .iload_n 0, 1), (1, .ifCond .lt 12, 3), (4, .iload_n 0, 1), (5, .iconst 3, 1), (6, .if_icmp .ge 7, 3), (9, .iconst 1, 1), (10, .goto 4, 3), (13, .iconst 0, 1), (14, .ireturn, 1)]
def ab_c58 : List (Nat × Instr × Nat) := ab_c58_0
def ab_y58 : MethodName := ⟨"AbsentPost", "isKept", "(I)Z"⟩
-- 59: AbsentPost$Post.becomeLike(LAbsentPost$Post;)V
def ab_c59_0 : List (Nat × Instr × Nat) := [(0, .aload_n 1, 1), (1, .getfield 9, 3), (4, .iconst 0, 1), (5, .aload_n 0, 1), (6, .getfield 9, 3), (9, .iconst 0, 1), (10, .bipush 6, 2), (12, .invokestatic 49, 3), (15, .aload_n 1, 1), (16, .getfield 15, 3), (19, .iconst 0, 1), (20, .aload_n 0, 1), (21, .getfield 15, 3), (24, .iconst 0, 1), (25, .bipush 6, 2), (27, .invokestatic 49, 3), (30, .aload_n 1, 1), (31, .getfield 18, 3), (34, .iconst 0, 1), (35, .aload_n 0, 1), (36, .getfield 18, 3), (39, .iconst 0, 1), (40, .bipush 6, 2), (42, .invokestatic 49, 3), (45, .aload_n 1, 1), (46, .getfield 21, 3), (49, .iconst 0, 1), (50, .aload_n 0, 1), (51, .getfield 21, 3), (54, .iconst 0, 1), (55, .bipush 6, 2), (57, .invokestatic 49, 3), (60, .aload_n 1, 1), (61, .getfield 24, 3), (64, .iconst 0, 1), (65, .aload_n 0, 1), (66, .getfield 24, 3), (69, .iconst 0, 1), (70, .bipush 6, 2), (72, .invokestatic 49, 3)]
def ab_c59_1 : List (Nat × Instr × Nat) := [(75, .aload_n 1, 1), (76, .getfield 27, 3), (79, .iconst 0, 1), (80, .aload_n 0, 1), (81, .getfield 27, 3), (84, .iconst 0, 1), (85, .bipush 6, 2), (87, .invokestatic 49, 3), (90, .aload_n 1, 1), (91, .getfield 30, 3), (94, .iconst 0, 1), (95, .aload_n 0, 1), (96, .getfield 30, 3), (99, .iconst 0, 1), (100, .bipush 40, 2), (102, .invokestatic 49, 3), (105, .aload_n 0, 1), (106, .aload_n 1, 1), (107, .getfield 34, 3), (110, .putfield 34, 3), (113, .aload_n 0, 1), (114, .aload_n 1, 1), (115, .getfield 61, 3), (118, .putfield 61, 3), (121, .aload_n 0, 1), (122, .aload_n 1, 1), (123, .getfield 64, 3), (126, .putfield 64, 3), (129, .return_, 1)]
def ab_c59 : List (Nat × Instr × Nat) := ab_c59_0 ++ ab_c59_1
def ab_y59 : MethodName := ⟨"AbsentPost$Post", "becomeLike", "(LAbsentPost$Post;)V"⟩
-- 60: AbsentPost.on(I)I
def ab_c60_0 : List (Nat × Instr × Nat) := [(0, .iload_n 1, 1), (1, .invokestatic 170, 3), (4, .ifCond .ne 5, 3), (7, .iconst (-1), 1), (8, .ireturn, 1), (9, .aload_n 0, 1), (10, .getfield 39, 3), (13, .iload_n 1, 1), (14, .aaload, 1), (15, .getfield 110, 3), (18, .ifCond .ne 9, 3), (21, .aload_n 0, 1), (22, .iconst 1, 1), (23, .invokevirtual 74, 3), (26, .ireturn, 1), (27, .aload_n 0, 1), (28, .getfield 35, 3), (31, .aload_n 0, 1), (32, .getfield 39, 3), (35, .iload_n 1, 1), (36, .aaload, 1), (37, .invokevirtual 173, 3), (40, .aload_n 0, 1), (41, .getfield 35, 3), (44, .getfield 152, 3), (47, .ireturn, 1)]
def ab_c60 : List (Nat × Instr × Nat) := ab_c60_0
def ab_y60 : MethodName := ⟨"AbsentPost", "on", "(I)I"⟩
-- 61: AbsentPost.empty(I)I
def ab_c61_0 : List (Nat × Instr × Nat) := [(0, .iload_n 1, 1), (1, .invokestatic 146, 3), (4, .ifCond .ne 5, 3), (7, .iconst (-1), 1), (8, .ireturn, 1), (9, .iconst 0, 1), (10, .istore_n 2, 1), (11, .iconst 0, 1), (12, .istore_n 3, 1), (13, .iload_n 3, 1), (14, .aload_n 0, 1), (15, .getfield 35, 3), (18, .getfield 110, 3), (21, .if_icmp .ge 30, 3), (24, .aload_n 0, 1), (25, .getfield 35, 3), (28, .iload_n 3, 1), (29, .invokevirtual 129, 3), (32, .iload_n 1, 1), (33, .invokestatic 149, 3), (36, .ifCond .eq 9, 3), (39, .iload_n 2, 1), (40, .iconst 1, 1), (41, .iload_n 3, 1), (42, .ishl, 1), (43, .ior, 1), (44, .istore_n 2, 1), (45, .iinc 3 1, 3), (48, .goto (-35), 3), (51, .iload_n 2, 1), (52, .ireturn, 1)]
def ab_c61 : List (Nat × Instr × Nat) := ab_c61_0
def ab_y61 : MethodName := ⟨"AbsentPost", "empty", "(I)I"⟩
-- 62: AbsentPost.hour(II)I
def ab_c62_0 : List (Nat × Instr × Nat) := [(0, .iload_n 2, 1), (1, .ifCond .ge 5, 3), (4, .iconst (-1), 1), (5, .ireturn, 1), (6, .aload_n 0, 1), (7, .iload_n 1, 1), (8, .invokevirtual 159, 3), (11, .istore_n 3, 1), (12, .iload_n 3, 1), (13, .ifCond .eq 5, 3), (16, .iload_n 3, 1), (17, .ireturn, 1), (18, .iload_n 2, 1), (19, .aload_n 0, 1), (20, .getfield 46, 3), (23, .getfield 177, 3), (26, .if_icmp .lt 9, 3), (29, .aload_n 0, 1), (30, .iconst 2, 1), (31, .invokevirtual 74, 3), (34, .ireturn, 1), (35, .aload_n 0, 1), (36, .getfield 46, 3), (39, .iload_n 2, 1), (40, .invokevirtual 180, 3), (43, .ireturn, 1)]
def ab_c62 : List (Nat × Instr × Nat) := ab_c62_0
def ab_y62 : MethodName := ⟨"AbsentPost", "hour", "(II)I"⟩
-- 63: AbsentPost$Round.hourOf(I)I
def ab_c63_0 : List (Nat × Instr × Nat) := [(0, .iconst 0, 1), (1, .istore_n 2, 1), (2, .iconst 0, 1), (3, .istore_n 3, 1), (4, .iconst 0, 1), (5, .istore 4, 2), (7, .iload 4, 2), (9, .iload_n 1, 1), (10, .if_icmp .gt 41, 3), (13, .iload 4, 2), (15, .aload_n 0, 1), (16, .getfield 21, 3), (19, .if_icmp .ge 32, 3), (22, .iload_n 2, 1), (23, .aload_n 0, 1), (24, .getfield 9, 3), (27, .iload 4, 2), (29, .iaload, 1), (30, .iload_n 3, 1), (31, .isub, 1), (32, .invokestatic 31, 3), (35, .iadd, 1), (36, .istore_n 2, 1), (37, .aload_n 0, 1), (38, .getfield 9, 3), (41, .iload 4, 2), (43, .iaload, 1), (44, .istore_n 3, 1), (45, .iinc 4 1, 3), (48, .goto (-41), 3), (51, .iload_n 2, 1), (52, .ireturn, 1)]
def ab_c63 : List (Nat × Instr × Nat) := ab_c63_0
def ab_y63 : MethodName := ⟨"AbsentPost$Round", "hourOf", "(I)I"⟩
-- 64: AbsentPost.brings(I)I
def ab_c64_0 : List (Nat × Instr × Nat) := [(0, .aload_n 0, 1), (1, .iload_n 1, 1), (2, .invokevirtual 159, 3), (5, .istore_n 2, 1), (6, .iload_n 2, 1), (7, .ifCond .eq 5, 3), (10, .iload_n 2, 1), (11, .ireturn, 1), (12, .aload_n 0, 1), (13, .invokevirtual 183, 3), (16, .istore_n 3, 1), (17, .iconst 0, 1), (18, .istore 4, 2), (20, .iconst 0, 1), (21, .istore 5, 2), (23, .iload 5, 2), (25, .aload_n 0, 1), (26, .getfield 35, 3), (29, .getfield 110, 3), (32, .if_icmp .ge 28, 3), (35, .aload_n 0, 1), (36, .getfield 57, 3), (39, .iload 5, 2), (41, .iaload, 1), (42, .ifCond .ne 12, 3), (45, .iload 4, 2), (47, .iconst 1, 1), (48, .iload 5, 2), (50, .ishl, 1), (51, .ior, 1), (52, .istore 4, 2), (54, .iinc 5 1, 3), (57, .goto (-34), 3), (60, .aload_n 0, 1), (61, .iload 4, 2), (63, .putfield 82, 3), (66, .iload_n 3, 1), (67, .ireturn, 1)]
def ab_c64 : List (Nat × Instr × Nat) := ab_c64_0
def ab_y64 : MethodName := ⟨"AbsentPost", "brings", "(I)I"⟩
-- 65: AbsentPost.tryRound()I
def ab_c65_0 : List (Nat × Instr × Nat) := [(0, .aload_n 0, 1), (1, .getfield 35, 3), (4, .getfield 140, 3), (7, .iconst 0, 1), (8, .aload_n 0, 1), (9, .getfield 57, 3), (12, .iconst 0, 1), (13, .bipush 6, 2), (15, .invokestatic 90, 3), (18, .aload_n 0, 1), (19, .getfield 35, 3), (22, .aload_n 0, 1), (23, .getfield 60, 3), (26, .iconst 1, 1), (27, .invokevirtual 233, 3), (30, .aload_n 0, 1), (31, .getfield 46, 3), (34, .aload_n 0, 1), (35, .getfield 57, 3), (38, .aload_n 0, 1), (39, .getfield 60, 3), (42, .invokevirtual 237, 3), (45, .ireturn, 1)]
def ab_c65 : List (Nat × Instr × Nat) := ab_c65_0
def ab_y65 : MethodName := ⟨"AbsentPost", "tryRound", "()I"⟩
-- 66: AbsentPost.should(II)I
def ab_c66_0 : List (Nat × Instr × Nat) := [(0, .aload_n 0, 1), (1, .iload_n 1, 1), (2, .invokevirtual 113, 3), (5, .ifCond .ne 5, 3), (8, .iconst (-1), 1), (9, .ireturn, 1), (10, .aload_n 0, 1), (11, .iload_n 2, 1), (12, .invokevirtual 159, 3), (15, .istore_n 3, 1), (16, .iload_n 3, 1), (17, .ifCond .eq 5, 3), (20, .iload_n 3, 1), (21, .ireturn, 1), (22, .aload_n 0, 1), (23, .getfield 35, 3), (26, .getfield 140, 3), (29, .iload_n 1, 1), (30, .iaload, 1), (31, .ifCond .eq 22, 3), (34, .aload_n 0, 1), (35, .getfield 46, 3), (38, .iload_n 1, 1), (39, .aload_n 0, 1), (40, .getfield 35, 3), (43, .iload_n 1, 1), (44, .invokevirtual 129, 3), (47, .invokevirtual 187, 3), (50, .ifCond .eq 5, 3), (53, .iconst 0, 1), (54, .ireturn, 1), (55, .iconst 0, 1), (56, .istore 4, 2), (58, .aload_n 0, 1), (59, .getfield 35, 3), (62, .iload_n 1, 1), (63, .invokevirtual 126, 3), (66, .istore 5, 2), (68, .iconst 0, 1), (69, .istore 6, 2)]
def ab_c66_1 : List (Nat × Instr × Nat) := [(71, .iload 6, 2), (73, .bipush 12, 2), (75, .if_icmp .ge 51, 3), (78, .iload 5, 2), (80, .iload 6, 2), (82, .invokestatic 149, 3), (85, .ifCond .ne 35, 3), (88, .aload_n 0, 1), (89, .getfield 46, 3), (92, .iload_n 1, 1), (93, .aload_n 0, 1), (94, .getfield 35, 3), (97, .iload_n 1, 1), (98, .iconst 1, 1), (99, .iload 6, 2), (101, .ishl, 1), (102, .invokevirtual 190, 3), (105, .invokevirtual 187, 3), (108, .ifCond .eq 12, 3), (111, .iload 4, 2), (113, .iconst 1, 1), (114, .iload 6, 2), (116, .ishl, 1), (117, .ior, 1), (118, .istore 4, 2), (120, .iinc 6 1, 3), (123, .goto (-52), 3), (126, .iload 4, 2), (128, .ireturn, 1)]
def ab_c66 : List (Nat × Instr × Nat) := ab_c66_0 ++ ab_c66_1
def ab_y66 : MethodName := ⟨"AbsentPost", "should", "(II)I"⟩
-- 67: AbsentPost$Round.meets(II)Z
def ab_c67_0 : List (Nat × Instr × Nat) := [(0, .iconst 0, 1), (1, .istore_n 3, 1), (2, .iload_n 3, 1), (3, .aload_n 0, 1), (4, .getfield 21, 3), (7, .if_icmp .ge 44, 3), (10, .aload_n 0, 1), (11, .getfield 9, 3), (14, .iload_n 3, 1), (15, .iaload, 1), (16, .iload_n 1, 1), (17, .if_icmp .ne 28, 3), (20, .aload_n 0, 1), (21, .iload_n 3, 1), (22, .invokevirtual 39, 3), (25, .istore 4, 2), (27, .iload 4, 2), (29, .bipush 12, 2), (31, .if_icmp .ge 14, 3), (34, .iload_n 2, 1), (35, .iload 4, 2), (37, .invokestatic 35, 3), (40, .ifCond .eq 5, 3), (43, .iconst 1, 1), (44, .ireturn, 1), (45, .iinc 3 1, 3), (48, .goto (-46), 3), (51, .iconst 0, 1), (52, .ireturn, 1)]
def ab_c67 : List (Nat × Instr × Nat) := ab_c67_0
def ab_y67 : MethodName := ⟨"AbsentPost$Round", "meets", "(II)Z"⟩
-- 68: AbsentPost$Post.emptyWith(II)I
def ab_c68_0 : List (Nat × Instr × Nat) := [(0, .aload_n 0, 1), (1, .getfield 9, 3), (4, .iload_n 1, 1), (5, .iaload, 1), (6, .aload_n 0, 1), (7, .iload_n 1, 1), (8, .invokevirtual 67, 3), (11, .iload_n 2, 1), (12, .ior, 1), (13, .aload_n 0, 1), (14, .getfield 27, 3), (17, .iload_n 1, 1), (18, .iaload, 1), (19, .iload_n 2, 1), (20, .ior, 1), (21, .invokestatic 70, 3), (24, .ireturn, 1)]
def ab_c68 : List (Nat × Instr × Nat) := ab_c68_0
def ab_y68 : MethodName := ⟨"AbsentPost$Post", "emptyWith", "(II)I"⟩
-- 69: AbsentPost.never()I
def ab_c69_0 : List (Nat × Instr × Nat) := [(0, .iconst 0, 1), (1, .istore_n 1, 1), (2, .iconst 0, 1), (3, .istore_n 2, 1), (4, .iload_n 2, 1), (5, .aload_n 0, 1), (6, .getfield 35, 3), (9, .getfield 110, 3), (12, .if_icmp .ge 28, 3), (15, .aload_n 0, 1), (16, .getfield 35, 3), (19, .iload_n 2, 1), (20, .invokevirtual 129, 3), (23, .iload_n 2, 1), (24, .ishr, 1), (25, .ifCond .ne 9, 3), (28, .iload_n 1, 1), (29, .iconst 1, 1), (30, .iload_n 2, 1), (31, .ishl, 1), (32, .ior, 1), (33, .istore_n 1, 1), (34, .iinc 2 1, 3), (37, .goto (-33), 3), (40, .iload_n 1, 1), (41, .ireturn, 1)]
def ab_c69 : List (Nat × Instr × Nat) := ab_c69_0
def ab_y69 : MethodName := ⟨"AbsentPost", "never", "()I"⟩
-- 70: AbsentPost.best(I)I
def ab_c70_0 : List (Nat × Instr × Nat) := [(0, .iload_n 1, 1), (1, .invokestatic 70, 3), (4, .ifCond .ne 5, 3), (7, .iconst (-1), 1), (8, .ireturn, 1), (9, .aload_n 0, 1), (10, .getfield 35, 3), (13, .getfield 110, 3), (16, .ifCond .ne 6, 3), (19, .bipush (-4), 2), (21, .ireturn, 1), (22, .aload_n 0, 1), (23, .getfield 53, 3), (26, .aload_n 0, 1), (27, .getfield 35, 3), (30, .invokevirtual 193, 3), (33, .aload_n 0, 1), (34, .getfield 11, 3), (37, .iload_n 1, 1), (38, .aaload, 1), (39, .iconst 0, 1), (40, .invokestatic 18, 3), (43, .aload_n 0, 1), (44, .getfield 53, 3), (47, .getfield 196, 3), (50, .iconst 0, 1), (51, .aload_n 0, 1), (52, .getfield 11, 3), (55, .iload_n 1, 1), (56, .aaload, 1), (57, .iconst 0, 1), (58, .aload_n 0, 1), (59, .getfield 53, 3), (62, .getfield 199, 3), (65, .invokestatic 90, 3), (68, .aload_n 0, 1), (69, .getfield 14, 3), (72, .iload_n 1, 1), (73, .aload_n 0, 1), (74, .getfield 53, 3)]
def ab_c70_1 : List (Nat × Instr × Nat) := [(77, .getfield 199, 3), (80, .iastore, 1), (81, .aload_n 0, 1), (82, .getfield 53, 3), (85, .getfield 202, 3), (88, .ireturn, 1)]
def ab_c70 : List (Nat × Instr × Nat) := ab_c70_0 ++ ab_c70_1
def ab_y70 : MethodName := ⟨"AbsentPost", "best", "(I)I"⟩
-- 71: AbsentPost$Search.over(LAbsentPost$Post;)V
def ab_c71_0 : List (Nat × Instr × Nat) := [(0, .aload_n 1, 1), (1, .aload_n 0, 1), (2, .getfield 9, 3), (5, .iconst 1, 1), (6, .invokevirtual 33, 3), (9, .aload_n 0, 1), (10, .iconst 0, 1), (11, .putfield 39, 3), (14, .aload_n 0, 1), (15, .iconst 0, 1), (16, .putfield 43, 3), (19, .aload_n 0, 1), (20, .iconst 0, 1), (21, .putfield 46, 3), (24, .aload_n 0, 1), (25, .iconst 0, 1), (26, .putfield 49, 3), (29, .aload_n 0, 1), (30, .iconst 0, 1), (31, .putfield 52, 3), (34, .aload_n 0, 1), (35, .aload_n 1, 1), (36, .iconst 0, 1), (37, .iconst 0, 1), (38, .invokevirtual 55, 3), (41, .return_, 1)]
def ab_c71 : List (Nat × Instr × Nat) := ab_c71_0
def ab_y71 : MethodName := ⟨"AbsentPost$Search", "over", "(LAbsentPost$Post;)V"⟩
-- 72: AbsentPost$Search.goOn(LAbsentPost$Post;II)V
def ab_c72_0 : List (Nat × Instr × Nat) := [(0, .aload_n 0, 1), (1, .iload_n 2, 1), (2, .invokevirtual 59, 3), (5, .iload_n 2, 1), (6, .bipush 6, 2), (8, .if_icmp .lt 4, 3), (11, .return_, 1), (12, .iconst 0, 1), (13, .istore 4, 2), (15, .iload 4, 2), (17, .aload_n 1, 1), (18, .getfield 63, 3), (21, .if_icmp .ge 46, 3), (24, .iload_n 3, 1), (25, .iload 4, 2), (27, .invokestatic 66, 3), (30, .ifCond .ne 31, 3), (33, .aload_n 0, 1), (34, .iload_n 2, 1), (35, .iload 4, 2), (37, .aload_n 1, 1), (38, .getfield 70, 3), (41, .iload 4, 2), (43, .iaload, 1), (44, .invokevirtual 73, 3), (47, .aload_n 0, 1), (48, .aload_n 1, 1), (49, .iload_n 2, 1), (50, .iconst 1, 1), (51, .iadd, 1), (52, .iload_n 3, 1), (53, .iconst 1, 1), (54, .iload 4, 2), (56, .ishl, 1), (57, .ior, 1), (58, .invokevirtual 55, 3), (61, .iinc 4 1, 3), (64, .goto (-49), 3), (67, .return_, 1)]
def ab_c72 : List (Nat × Instr × Nat) := ab_c72_0
def ab_y72 : MethodName := ⟨"AbsentPost$Search", "goOn", "(LAbsentPost$Post;II)V"⟩
-- 73: AbsentPost$Search.weigh(I)V
def ab_c73_0 : List (Nat × Instr × Nat) := [(0, .aload_n 0, 1), (1, .getfield 24, 3), (4, .iload_n 1, 1), (5, .iaload, 1), (6, .aload_n 0, 1), (7, .getfield 43, 3), (10, .if_icmp .le 45, 3), (13, .aload_n 0, 1), (14, .aload_n 0, 1), (15, .getfield 24, 3), (18, .iload_n 1, 1), (19, .iaload, 1), (20, .putfield 43, 3), (23, .aload_n 0, 1), (24, .aload_n 0, 1), (25, .getfield 30, 3), (28, .iload_n 1, 1), (29, .iaload, 1), (30, .putfield 46, 3), (33, .aload_n 0, 1), (34, .iload_n 1, 1), (35, .putfield 39, 3), (38, .aload_n 0, 1), (39, .getfield 15, 3), (42, .iconst 0, 1), (43, .aload_n 0, 1), (44, .getfield 18, 3), (47, .iconst 0, 1), (48, .iload_n 1, 1), (49, .invokestatic 83, 3), (52, .goto 33, 3), (55, .aload_n 0, 1), (56, .getfield 24, 3), (59, .iload_n 1, 1), (60, .iaload, 1), (61, .aload_n 0, 1), (62, .getfield 43, 3), (65, .if_icmp .ne 20, 3), (68, .aload_n 0, 1), (69, .aload_n 0, 1)]
def ab_c73_1 : List (Nat × Instr × Nat) := [(70, .getfield 46, 3), (73, .aload_n 0, 1), (74, .getfield 30, 3), (77, .iload_n 1, 1), (78, .iaload, 1), (79, .invokestatic 89, 3), (82, .putfield 46, 3), (85, .aload_n 0, 1), (86, .getfield 27, 3), (89, .iload_n 1, 1), (90, .iaload, 1), (91, .aload_n 0, 1), (92, .getfield 49, 3), (95, .if_icmp .le 18, 3), (98, .aload_n 0, 1), (99, .aload_n 0, 1), (100, .getfield 27, 3), (103, .iload_n 1, 1), (104, .iaload, 1), (105, .putfield 49, 3), (108, .aload_n 0, 1), (109, .iconst 0, 1), (110, .putfield 52, 3), (113, .aload_n 0, 1), (114, .getfield 27, 3), (117, .iload_n 1, 1), (118, .iaload, 1), (119, .aload_n 0, 1), (120, .getfield 49, 3), (123, .if_icmp .ne 13, 3), (126, .aload_n 0, 1), (127, .dup, 1), (128, .getfield 52, 3), (131, .iconst 1, 1), (132, .iadd, 1), (133, .putfield 52, 3), (136, .return_, 1)]
def ab_c73 : List (Nat × Instr × Nat) := ab_c73_0 ++ ab_c73_1
def ab_y73 : MethodName := ⟨"AbsentPost$Search", "weigh", "(I)V"⟩
-- 74: AbsentPost$Search.step(III)V
def ab_c74_0 : List (Nat × Instr × Nat) := [(0, .iload_n 1, 1), (1, .ifCond .ne 7, 3), (4, .iconst 0, 1), (5, .goto 11, 3), (8, .aload_n 0, 1), (9, .getfield 15, 3), (12, .iload_n 1, 1), (13, .iconst 1, 1), (14, .isub, 1), (15, .iaload, 1), (16, .istore 4, 2), (18, .aload_n 0, 1), (19, .getfield 21, 3), (22, .iload_n 1, 1), (23, .iaload, 1), (24, .iload_n 2, 1), (25, .iload 4, 2), (27, .isub, 1), (28, .invokestatic 77, 3), (31, .iadd, 1), (32, .istore 5, 2), (34, .iload_n 3, 1), (35, .ifCond .le 28, 3), (38, .iload 5, 2), (40, .bipush 12, 2), (42, .if_icmp .ge 21, 3), (45, .aload_n 0, 1), (46, .getfield 9, 3), (49, .iload_n 2, 1), (50, .iaload, 1), (51, .iload 5, 2), (53, .invokestatic 66, 3), (56, .ifCond .eq 7, 3), (59, .iconst 1, 1), (60, .goto 4, 3), (63, .iconst 0, 1), (64, .istore 6, 2), (66, .aload_n 0, 1), (67, .getfield 15, 3), (70, .iload_n 1, 1)]
def ab_c74_1 : List (Nat × Instr × Nat) := [(71, .iload_n 2, 1), (72, .iastore, 1), (73, .aload_n 0, 1), (74, .getfield 21, 3), (77, .iload_n 1, 1), (78, .iconst 1, 1), (79, .iadd, 1), (80, .iload 5, 2), (82, .iastore, 1), (83, .aload_n 0, 1), (84, .getfield 24, 3), (87, .iload_n 1, 1), (88, .iconst 1, 1), (89, .iadd, 1), (90, .iload 6, 2), (92, .ifCond .eq 14, 3), (95, .aload_n 0, 1), (96, .getfield 24, 3), (99, .iload_n 1, 1), (100, .iaload, 1), (101, .iload_n 3, 1), (102, .iadd, 1), (103, .goto 9, 3), (106, .aload_n 0, 1), (107, .getfield 24, 3), (110, .iload_n 1, 1), (111, .iaload, 1), (112, .iastore, 1), (113, .aload_n 0, 1), (114, .getfield 27, 3), (117, .iload_n 1, 1), (118, .iconst 1, 1), (119, .iadd, 1), (120, .iload 6, 2), (122, .ifCond .eq 14, 3), (125, .aload_n 0, 1), (126, .getfield 27, 3), (129, .iload_n 1, 1), (130, .iaload, 1), (131, .iconst 1, 1)]
def ab_c74_2 : List (Nat × Instr × Nat) := [(132, .iadd, 1), (133, .goto 9, 3), (136, .aload_n 0, 1), (137, .getfield 27, 3), (140, .iload_n 1, 1), (141, .iaload, 1), (142, .iastore, 1), (143, .aload_n 0, 1), (144, .getfield 30, 3), (147, .iload_n 1, 1), (148, .iconst 1, 1), (149, .iadd, 1), (150, .iload 6, 2), (152, .ifCond .eq 8, 3), (155, .iload 5, 2), (157, .goto 9, 3), (160, .aload_n 0, 1), (161, .getfield 30, 3), (164, .iload_n 1, 1), (165, .iaload, 1), (166, .iastore, 1), (167, .return_, 1)]
def ab_c74 : List (Nat × Instr × Nat) := ab_c74_0 ++ ab_c74_1 ++ ab_c74_2
def ab_y74 : MethodName := ⟨"AbsentPost$Search", "step", "(III)V"⟩
-- 75: AbsentPost.most()I
def ab_c75_0 : List (Nat × Instr × Nat) := [(0, .aload_n 0, 1), (1, .getfield 35, 3), (4, .getfield 110, 3), (7, .ifCond .ne 6, 3), (10, .bipush (-4), 2), (12, .ireturn, 1), (13, .aload_n 0, 1), (14, .getfield 53, 3), (17, .aload_n 0, 1), (18, .getfield 35, 3), (21, .invokevirtual 193, 3), (24, .aload_n 0, 1), (25, .aload_n 0, 1), (26, .getfield 53, 3), (29, .getfield 205, 3), (32, .putfield 82, 3), (35, .aload_n 0, 1), (36, .getfield 53, 3), (39, .getfield 208, 3), (42, .ireturn, 1)]
def ab_c75 : List (Nat × Instr × Nat) := ab_c75_0
def ab_y75 : MethodName := ⟨"AbsentPost", "most", "()I"⟩
-- 76: AbsentPost.soon()I
def ab_c76_0 : List (Nat × Instr × Nat) := [(0, .aload_n 0, 1), (1, .getfield 35, 3), (4, .getfield 110, 3), (7, .ifCond .ne 6, 3), (10, .bipush (-4), 2), (12, .ireturn, 1), (13, .aload_n 0, 1), (14, .getfield 53, 3), (17, .aload_n 0, 1), (18, .getfield 35, 3), (21, .invokevirtual 193, 3), (24, .aload_n 0, 1), (25, .getfield 53, 3), (28, .getfield 211, 3), (31, .ireturn, 1)]
def ab_c76 : List (Nat × Instr × Nat) := ab_c76_0
def ab_y76 : MethodName := ⟨"AbsentPost", "soon", "()I"⟩
-- 77: AbsentPost.errands()I
def ab_c77_0 : List (Nat × Instr × Nat) := [(0, .aload_n 0, 1), (1, .getfield 35, 3), (4, .getfield 110, 3), (7, .ifCond .ne 6, 3), (10, .bipush (-4), 2), (12, .ireturn, 1), (13, .iconst 0, 1), (14, .istore_n 1, 1), (15, .iconst 0, 1), (16, .istore_n 2, 1), (17, .iload_n 2, 1), (18, .aload_n 0, 1), (19, .getfield 35, 3), (22, .getfield 110, 3), (25, .if_icmp .ge 48, 3), (28, .aload_n 0, 1), (29, .getfield 35, 3), (32, .getfield 140, 3), (35, .iload_n 2, 1), (36, .iaload, 1), (37, .ifCond .ne 7, 3), (40, .iconst 0, 1), (41, .goto 12, 3), (44, .aload_n 0, 1), (45, .getfield 35, 3), (48, .iload_n 2, 1), (49, .iload_n 2, 1), (50, .invokevirtual 214, 3), (53, .istore_n 3, 1), (54, .iload_n 3, 1), (55, .bipush (-9), 2), (57, .if_icmp .ne 6, 3), (60, .bipush (-9), 2), (62, .ireturn, 1), (63, .iload_n 1, 1), (64, .iload_n 3, 1), (65, .iadd, 1), (66, .istore_n 1, 1), (67, .iinc 2 1, 3), (70, .goto (-53), 3)]
def ab_c77_1 : List (Nat × Instr × Nat) := [(73, .iload_n 1, 1), (74, .ireturn, 1)]
def ab_c77 : List (Nat × Instr × Nat) := ab_c77_0 ++ ab_c77_1
def ab_y77 : MethodName := ⟨"AbsentPost", "errands", "()I"⟩
-- 78: AbsentPost$Post.fewestErrands(II)I
def ab_c78_0 : List (Nat × Instr × Nat) := [(0, .aload_n 0, 1), (1, .iload_n 1, 1), (2, .invokevirtual 74, 3), (5, .iload_n 2, 1), (6, .invokestatic 77, 3), (9, .ifCond .eq 5, 3), (12, .iconst 0, 1), (13, .ireturn, 1), (14, .aload_n 0, 1), (15, .iload_n 1, 1), (16, .invokevirtual 67, 3), (19, .istore_n 3, 1), (20, .bipush (-9), 2), (22, .istore 4, 2), (24, .iconst 0, 1), (25, .istore 5, 2), (27, .iload 5, 2), (29, .bipush 12, 2), (31, .if_icmp .ge 91, 3), (34, .iload_n 3, 1), (35, .iload 5, 2), (37, .invokestatic 77, 3), (40, .ifCond .eq 6, 3), (43, .goto 73, 3), (46, .aload_n 0, 1), (47, .iload_n 1, 1), (48, .iconst 1, 1), (49, .iload 5, 2), (51, .ishl, 1), (52, .invokevirtual 81, 3), (55, .iload_n 2, 1), (56, .invokestatic 77, 3), (59, .ifCond .eq 5, 3), (62, .iconst 1, 1), (63, .ireturn, 1), (64, .iload 5, 2), (66, .iconst 1, 1), (67, .iadd, 1), (68, .istore 6, 2), (70, .iload 6, 2)]
def ab_c78_1 : List (Nat × Instr × Nat) := [(72, .bipush 12, 2), (74, .if_icmp .ge 42, 3), (77, .iload_n 3, 1), (78, .iload 6, 2), (80, .invokestatic 77, 3), (83, .ifCond .ne 27, 3), (86, .aload_n 0, 1), (87, .iload_n 1, 1), (88, .iconst 1, 1), (89, .iload 5, 2), (91, .ishl, 1), (92, .iconst 1, 1), (93, .iload 6, 2), (95, .ishl, 1), (96, .ior, 1), (97, .invokevirtual 81, 3), (100, .iload_n 2, 1), (101, .invokestatic 77, 3), (104, .ifCond .eq 6, 3), (107, .iconst 2, 1), (108, .istore 4, 2), (110, .iinc 6 1, 3), (113, .goto (-43), 3), (116, .iinc 5 1, 3), (119, .goto (-92), 3), (122, .iload 4, 2), (124, .ireturn, 1)]
def ab_c78 : List (Nat × Instr × Nat) := ab_c78_0 ++ ab_c78_1
def ab_y78 : MethodName := ⟨"AbsentPost$Post", "fewestErrands", "(II)I"⟩
-- 79: AbsentPost.kinds(II)I
def ab_c79_0 : List (Nat × Instr × Nat) := [(0, .aload_n 0, 1), (1, .iload_n 1, 1), (2, .invokevirtual 113, 3), (5, .ifCond .ne 5, 3), (8, .iconst (-1), 1), (9, .ireturn, 1), (10, .aload_n 0, 1), (11, .iload_n 2, 1), (12, .invokevirtual 217, 3), (15, .istore_n 3, 1), (16, .iload_n 3, 1), (17, .ifCond .eq 5, 3), (20, .iload_n 3, 1), (21, .ireturn, 1), (22, .iconst 0, 1), (23, .istore 4, 2), (25, .iconst 0, 1), (26, .istore 5, 2), (28, .iload 5, 2), (30, .bipush 6, 2), (32, .if_icmp .ge 48, 3), (35, .aload_n 0, 1), (36, .iload_n 2, 1), (37, .iload 5, 2), (39, .aload_n 0, 1), (40, .getfield 35, 3), (43, .iload_n 1, 1), (44, .invokevirtual 126, 3), (47, .aload_n 0, 1), (48, .getfield 35, 3), (51, .getfield 220, 3), (54, .iload_n 1, 1), (55, .iaload, 1), (56, .invokestatic 223, 3), (59, .invokevirtual 227, 3), (62, .ifCond .eq 12, 3), (65, .iload 4, 2), (67, .iconst 1, 1), (68, .iload 5, 2), (70, .ishl, 1)]
def ab_c79_1 : List (Nat × Instr × Nat) := [(71, .ior, 1), (72, .istore 4, 2), (74, .iinc 5 1, 3), (77, .goto (-49), 3), (80, .iload 4, 2), (82, .ireturn, 1)]
def ab_c79 : List (Nat × Instr × Nat) := ab_c79_0 ++ ab_c79_1
def ab_y79 : MethodName := ⟨"AbsentPost", "kinds", "(II)I"⟩
-- 80: AbsentPost.refuseSights(I)I
def ab_c80_0 : List (Nat × Instr × Nat) := [(0, .iload_n 1, 1), (1, .invokestatic 70, 3), (4, .ifCond .ne 5, 3), (7, .iconst (-1), 1), (8, .ireturn, 1), (9, .aload_n 0, 1), (10, .getfield 14, 3), (13, .iload_n 1, 1), (14, .iaload, 1), (15, .istore_n 2, 1), (16, .iload_n 2, 1), (17, .ifCond .ge 9, 3), (20, .aload_n 0, 1), (21, .iconst 1, 1), (22, .invokevirtual 74, 3), (25, .ireturn, 1), (26, .iload_n 2, 1), (27, .iconst 2, 1), (28, .irem, 1), (29, .ifCond .eq 9, 3), (32, .aload_n 0, 1), (33, .iconst 5, 1), (34, .invokevirtual 74, 3), (37, .ireturn, 1), (38, .iconst 0, 1), (39, .istore_n 3, 1), (40, .iload_n 3, 1), (41, .iconst 1, 1), (42, .iadd, 1), (43, .iload_n 2, 1), (44, .if_icmp .ge 52, 3), (47, .aload_n 0, 1), (48, .getfield 11, 3), (51, .iload_n 1, 1), (52, .aaload, 1), (53, .iload_n 3, 1), (54, .iconst 1, 1), (55, .iadd, 1), (56, .iaload, 1), (57, .istore 4, 2)]
def ab_c80_1 : List (Nat × Instr × Nat) := [(59, .aload_n 0, 1), (60, .getfield 11, 3), (63, .iload_n 1, 1), (64, .aaload, 1), (65, .iload_n 3, 1), (66, .iaload, 1), (67, .invokestatic 146, 3), (70, .ifCond .eq 14, 3), (73, .iload 4, 2), (75, .ifCond .lt 9, 3), (78, .iload 4, 2), (80, .iconst 1, 1), (81, .if_icmp .le 9, 3), (84, .aload_n 0, 1), (85, .iconst 3, 1), (86, .invokevirtual 74, 3), (89, .ireturn, 1), (90, .iinc 3 2, 3), (93, .goto (-53), 3), (96, .iconst 0, 1), (97, .ireturn, 1)]
def ab_c80 : List (Nat × Instr × Nat) := ab_c80_0 ++ ab_c80_1
def ab_y80 : MethodName := ⟨"AbsentPost", "refuseSights", "(I)I"⟩
-- 81: AbsentPost.agrees(II)Z
def ab_c81_0 : List (Nat × Instr × Nat) := [(0, .iconst 0, 1), (1, .istore_n 3, 1), (2, .iload_n 3, 1), (3, .iconst 1, 1), (4, .iadd, 1), (5, .aload_n 0, 1), (6, .getfield 14, 3), (9, .iload_n 1, 1), (10, .iaload, 1), (11, .if_icmp .ge 45, 3), (14, .iload_n 2, 1), (15, .aload_n 0, 1), (16, .getfield 11, 3), (19, .iload_n 1, 1), (20, .aaload, 1), (21, .iload_n 3, 1), (22, .iaload, 1), (23, .invokestatic 149, 3), (26, .aload_n 0, 1), (27, .getfield 11, 3), (30, .iload_n 1, 1), (31, .aaload, 1), (32, .iload_n 3, 1), (33, .iconst 1, 1), (34, .iadd, 1), (35, .iaload, 1), (36, .iconst 1, 1), (37, .if_icmp .ne 7, 3), (40, .iconst 1, 1), (41, .goto 4, 3), (44, .iconst 0, 1), (45, .if_icmp .eq 5, 3), (48, .iconst 0, 1), (49, .ireturn, 1), (50, .iinc 3 2, 3), (53, .goto (-51), 3), (56, .iconst 1, 1), (57, .ireturn, 1)]
def ab_c81 : List (Nat × Instr × Nat) := ab_c81_0
def ab_y81 : MethodName := ⟨"AbsentPost", "agrees", "(II)Z"⟩
-- 82: AbsentPost.outs(III)I
def ab_c82_0 : List (Nat × Instr × Nat) := [(0, .aload_n 0, 1), (1, .iload_n 1, 1), (2, .invokevirtual 113, 3), (5, .ifCond .eq 13, 3), (8, .iload_n 2, 1), (9, .ifCond .lt 9, 3), (12, .iload_n 2, 1), (13, .bipush 9, 2), (15, .if_icmp .le 5, 3), (18, .iconst (-1), 1), (19, .ireturn, 1), (20, .aload_n 0, 1), (21, .iload_n 3, 1), (22, .invokevirtual 217, 3), (25, .istore 4, 2), (27, .iload 4, 2), (29, .ifCond .eq 6, 3), (32, .iload 4, 2), (34, .ireturn, 1), (35, .iconst 0, 1), (36, .istore 5, 2), (38, .iconst 0, 1), (39, .istore 6, 2), (41, .iload 6, 2), (43, .bipush 12, 2), (45, .if_icmp .ge 45, 3), (48, .aload_n 0, 1), (49, .iload_n 3, 1), (50, .aload_n 0, 1), (51, .getfield 35, 3), (54, .getfield 119, 3), (57, .iload_n 1, 1), (58, .iaload, 1), (59, .iload 6, 2), (61, .iload_n 2, 1), (62, .invokestatic 230, 3), (65, .iconst 0, 1), (66, .invokestatic 223, 3), (69, .invokevirtual 227, 3), (72, .ifCond .eq 12, 3)]
def ab_c82_1 : List (Nat × Instr × Nat) := [(75, .iload 5, 2), (77, .iconst 1, 1), (78, .iload 6, 2), (80, .ishl, 1), (81, .ior, 1), (82, .istore 5, 2), (84, .iinc 6 1, 3), (87, .goto (-46), 3), (90, .iload 5, 2), (92, .ireturn, 1)]
def ab_c82 : List (Nat × Instr × Nat) := ab_c82_0 ++ ab_c82_1
def ab_y82 : MethodName := ⟨"AbsentPost", "outs", "(III)I"⟩
-- 83: AbsentPost.feigned()I
def ab_c83_0 : List (Nat × Instr × Nat) := [(0, .iconst 0, 1), (1, .istore_n 1, 1), (2, .iconst 0, 1), (3, .istore_n 2, 1), (4, .iload_n 2, 1), (5, .aload_n 0, 1), (6, .getfield 35, 3), (9, .getfield 110, 3), (12, .if_icmp .ge 37, 3), (15, .aload_n 0, 1), (16, .getfield 35, 3), (19, .iload_n 2, 1), (20, .invokevirtual 129, 3), (23, .aload_n 0, 1), (24, .getfield 35, 3), (27, .iload_n 2, 1), (28, .invokevirtual 126, 3), (31, .iconst (-1), 1), (32, .ixor, 1), (33, .iand, 1), (34, .ifCond .eq 9, 3), (37, .iload_n 1, 1), (38, .iconst 1, 1), (39, .iload_n 2, 1), (40, .ishl, 1), (41, .ior, 1), (42, .istore_n 1, 1), (43, .iinc 2 1, 3), (46, .goto (-42), 3), (49, .iload_n 1, 1), (50, .ireturn, 1)]
def ab_c83 : List (Nat × Instr × Nat) := ab_c83_0
def ab_y83 : MethodName := ⟨"AbsentPost", "feigned", "()I"⟩
-- 84: AbsentPost.sack(II)I
def ab_c84_0 : List (Nat × Instr × Nat) := [(0, .iload_n 2, 1), (1, .ifCond .lt 9, 3), (4, .iload_n 2, 1), (5, .bipush 30, 2), (7, .if_icmp .le 5, 3), (10, .iconst (-1), 1), (11, .ireturn, 1), (12, .aload_n 0, 1), (13, .iload_n 1, 1), (14, .invokevirtual 159, 3), (17, .istore_n 3, 1), (18, .iload_n 3, 1), (19, .ifCond .eq 5, 3), (22, .iload_n 3, 1), (23, .ireturn, 1), (24, .aload_n 0, 1), (25, .getfield 35, 3), (28, .getfield 140, 3), (31, .iconst 0, 1), (32, .aload_n 0, 1), (33, .getfield 57, 3), (36, .iconst 0, 1), (37, .bipush 6, 2), (39, .invokestatic 90, 3), (42, .aload_n 0, 1), (43, .getfield 35, 3), (46, .aload_n 0, 1), (47, .getfield 60, 3), (50, .iconst 1, 1), (51, .invokevirtual 233, 3), (54, .iconst 0, 1), (55, .istore 4, 2), (57, .iload 4, 2), (59, .iload_n 2, 1), (60, .if_icmp .ge 48, 3), (63, .aload_n 0, 1), (64, .getfield 46, 3), (67, .aload_n 0, 1), (68, .getfield 57, 3), (71, .aload_n 0, 1)]
def ab_c84_1 : List (Nat × Instr × Nat) := [(72, .getfield 60, 3), (75, .invokevirtual 237, 3), (78, .pop, 1), (79, .aload_n 0, 1), (80, .getfield 35, 3), (83, .aload_n 0, 1), (84, .getfield 57, 3), (87, .invokevirtual 241, 3), (90, .aload_n 0, 1), (91, .getfield 35, 3), (94, .aload_n 0, 1), (95, .getfield 60, 3), (98, .iconst 0, 1), (99, .invokevirtual 233, 3), (102, .iinc 4 1, 3), (105, .goto (-48), 3), (108, .aload_n 0, 1), (109, .getfield 35, 3), (112, .aload_n 0, 1), (113, .getfield 57, 3), (116, .invokevirtual 245, 3), (119, .ireturn, 1)]
def ab_c84 : List (Nat × Instr × Nat) := ab_c84_0 ++ ab_c84_1
def ab_y84 : MethodName := ⟨"AbsentPost", "sack", "(II)I"⟩
-- 85: AbsentPost$Post.sum([I)I
def ab_c85_0 : List (Nat × Instr × Nat) := [(0, .iconst 0, 1), (1, .istore_n 2, 1), (2, .iconst 0, 1), (3, .istore_n 3, 1), (4, .iload_n 3, 1), (5, .aload_n 0, 1), (6, .getfield 34, 3), (9, .if_icmp .ge 15, 3), (12, .iload_n 2, 1), (13, .aload_n 1, 1), (14, .iload_n 3, 1), (15, .iaload, 1), (16, .iadd, 1), (17, .istore_n 2, 1), (18, .iinc 3 1, 3), (21, .goto (-17), 3), (24, .iload_n 2, 1), (25, .ireturn, 1)]
def ab_c85 : List (Nat × Instr × Nat) := ab_c85_0
def ab_y85 : MethodName := ⟨"AbsentPost$Post", "sum", "([I)I"⟩
-- 86: AbsentPost.race(I)I
def ab_c86_0 : List (Nat × Instr × Nat) := [(0, .iload_n 1, 1), (1, .ifCond .lt 8, 3), (4, .iload_n 1, 1), (5, .iconst 2, 1), (6, .if_icmp .le 5, 3), (9, .iconst (-1), 1), (10, .ireturn, 1), (11, .aload_n 0, 1), (12, .getfield 35, 3), (15, .getfield 110, 3), (18, .ifCond .ne 6, 3), (21, .bipush (-4), 2), (23, .ireturn, 1), (24, .aload_n 0, 1), (25, .getfield 35, 3), (28, .aload_n 0, 1), (29, .getfield 60, 3), (32, .iconst 1, 1), (33, .invokevirtual 233, 3), (36, .aload_n 0, 1), (37, .iconst 0, 1), (38, .iconst 0, 1), (39, .iconst 0, 1), (40, .iload_n 1, 1), (41, .invokevirtual 249, 3), (44, .ireturn, 1)]
def ab_c86 : List (Nat × Instr × Nat) := ab_c86_0
def ab_y86 : MethodName := ⟨"AbsentPost", "race", "(I)I"⟩
-- 87: AbsentPost.postmanTurn(IIII)I
def ab_c87_0 : List (Nat × Instr × Nat) := [(0, .iload 4, 2), (2, .ifCond .gt 5, 3), (5, .iconst 0, 1), (6, .ireturn, 1), (7, .iconst 0, 1), (8, .istore 5, 2), (10, .iconst 0, 1), (11, .istore 6, 2), (13, .iload 6, 2), (15, .aload_n 0, 1), (16, .getfield 35, 3), (19, .getfield 110, 3), (22, .if_icmp .ge 118, 3), (25, .iload_n 2, 1), (26, .iload 6, 2), (28, .iload_n 1, 1), (29, .isub, 1), (30, .invokestatic 306, 3), (33, .iadd, 1), (34, .istore 7, 2), (36, .iload 7, 2), (38, .bipush 12, 2), (40, .if_icmp .ge 31, 3), (43, .iload_n 3, 1), (44, .iload 6, 2), (46, .invokestatic 149, 3), (49, .ifCond .ne 22, 3), (52, .aload_n 0, 1), (53, .getfield 60, 3), (56, .iload 6, 2), (58, .iaload, 1), (59, .iload 7, 2), (61, .invokestatic 149, 3), (64, .ifCond .eq 7, 3), (67, .iconst 1, 1), (68, .goto 4, 3), (71, .iconst 0, 1), (72, .istore 8, 2), (74, .iload 8, 2), (76, .ifCond .eq 16, 3)]
def ab_c87_1 : List (Nat × Instr × Nat) := [(79, .aload_n 0, 1), (80, .getfield 35, 3), (83, .getfield 140, 3), (86, .iload 6, 2), (88, .iaload, 1), (89, .goto 4, 3), (92, .iconst 0, 1), (93, .istore 9, 2), (95, .iload 9, 2), (97, .aload_n 0, 1), (98, .iload 6, 2), (100, .iload 7, 2), (102, .iload 8, 2), (104, .ifCond .eq 12, 3), (107, .iload_n 3, 1), (108, .iconst 1, 1), (109, .iload 6, 2), (111, .ishl, 1), (112, .ior, 1), (113, .goto 4, 3), (116, .iload_n 3, 1), (117, .iload 4, 2), (119, .invokevirtual 311, 3), (122, .iadd, 1), (123, .istore 9, 2), (125, .iload 5, 2), (127, .iload 9, 2), (129, .invokestatic 314, 3), (132, .istore 5, 2), (134, .iinc 6 1, 3), (137, .goto (-124), 3), (140, .iload 5, 2), (142, .ireturn, 1)]
def ab_c87 : List (Nat × Instr × Nat) := ab_c87_0 ++ ab_c87_1
def ab_y87 : MethodName := ⟨"AbsentPost", "postmanTurn", "(IIII)I"⟩
-- 88: AbsentPost.wagTurn(IIII)I
def ab_c88_0 : List (Nat × Instr × Nat) := [(0, .iload 4, 2), (2, .iconst 1, 1), (3, .if_icmp .gt 5, 3), (6, .iconst 0, 1), (7, .ireturn, 1), (8, .aload_n 0, 1), (9, .iload_n 1, 1), (10, .iload_n 2, 1), (11, .iload_n 3, 1), (12, .iconst 1, 1), (13, .ior, 1), (14, .iload 4, 2), (16, .iconst 1, 1), (17, .isub, 1), (18, .invokevirtual 249, 3), (21, .istore 5, 2), (23, .iconst 1, 1), (24, .istore 6, 2), (26, .iload 6, 2), (28, .aload_n 0, 1), (29, .getfield 35, 3), (32, .getfield 110, 3), (35, .if_icmp .ge 32, 3), (38, .iload 5, 2), (40, .aload_n 0, 1), (41, .iload_n 1, 1), (42, .iload_n 2, 1), (43, .iload_n 3, 1), (44, .iconst 1, 1), (45, .iload 6, 2), (47, .ishl, 1), (48, .ior, 1), (49, .iload 4, 2), (51, .iconst 1, 1), (52, .isub, 1), (53, .invokevirtual 249, 3), (56, .invokestatic 317, 3), (59, .istore 5, 2), (61, .iinc 6 1, 3), (64, .goto (-38), 3)]
def ab_c88_1 : List (Nat × Instr × Nat) := [(67, .iload 5, 2), (69, .ireturn, 1)]
def ab_c88 : List (Nat × Instr × Nat) := ab_c88_0 ++ ab_c88_1
def ab_y88 : MethodName := ⟨"AbsentPost", "wagTurn", "(IIII)I"⟩
-- 89: AbsentPost.mid(II)I
def ab_c89_0 : List (Nat × Instr × Nat) := [(0, .iload_n 2, 1), (1, .ifCond .lt 9, 3), (4, .iload_n 2, 1), (5, .bipush 12, 2), (7, .if_icmp .le 5, 3), (10, .iconst (-1), 1), (11, .ireturn, 1), (12, .aload_n 0, 1), (13, .iload_n 1, 1), (14, .invokevirtual 159, 3), (17, .istore_n 3, 1), (18, .iload_n 3, 1), (19, .ifCond .eq 5, 3), (22, .iload_n 3, 1), (23, .ireturn, 1), (24, .aload_n 0, 1), (25, .aload_n 0, 1), (26, .invokevirtual 183, 3), (29, .i2l, 1), (30, .bipush 12, 2), (32, .iload_n 2, 1), (33, .isub, 1), (34, .i2l, 1), (35, .lmul, 1), (36, .ldc2_w 253, 3), (39, .invokevirtual 255, 3), (42, .iconst 1, 1), (43, .ireturn, 1)]
def ab_c89 : List (Nat × Instr × Nat) := ab_c89_0
def ab_y89 : MethodName := ⟨"AbsentPost", "mid", "(II)I"⟩
-- 90: AbsentPost.tellShare(JJ)V
def ab_c90_0 : List (Nat × Instr × Nat) := [(0, .lload_n 3, 1), (1, .lstore 5, 2), (3, .lload_n 1, 1), (4, .lstore 7, 2), (6, .iconst 0, 1), (7, .istore 9, 2), (9, .iload 9, 2), (11, .sipush 1000, 3), (14, .if_icmp .ge 31, 3), (17, .lload 7, 2), (19, .lconst 0, 1), (20, .lcmp, 1), (21, .ifCond .eq 24, 3), (24, .lload 5, 2), (26, .lload 7, 2), (28, .lrem, 1), (29, .lstore 10, 2), (31, .lload 7, 2), (33, .lstore 5, 2), (35, .lload 10, 2), (37, .lstore 7, 2), (39, .iinc 9 1, 3), (42, .goto (-33), 3), (45, .lload 5, 2), (47, .lconst 0, 1), (48, .lcmp, 1), (49, .ifCond .eq 19, 3), (52, .aload_n 0, 1), (53, .lload_n 1, 1), (54, .lload 5, 2), (56, .ldiv, 1), (57, .putfield 266, 3), (60, .aload_n 0, 1), (61, .lload_n 3, 1), (62, .lload 5, 2), (64, .ldiv, 1), (65, .putfield 66, 3), (68, .return_, 1)]
def ab_c90 : List (Nat × Instr × Nat) := ab_c90_0
def ab_y90 : MethodName := ⟨"AbsentPost", "tellShare", "(JJ)V"⟩
-- 91: AbsentPost.odds(II)I
def ab_c91_0 : List (Nat × Instr × Nat) := [(0, .iload_n 2, 1), (1, .ifCond .lt 9, 3), (4, .iload_n 2, 1), (5, .bipush 12, 2), (7, .if_icmp .le 5, 3), (10, .iconst (-1), 1), (11, .ireturn, 1), (12, .aload_n 0, 1), (13, .iload_n 1, 1), (14, .invokevirtual 159, 3), (17, .istore_n 3, 1), (18, .iload_n 3, 1), (19, .ifCond .eq 5, 3), (22, .iload_n 3, 1), (23, .ireturn, 1), (24, .aload_n 0, 1), (25, .invokevirtual 183, 3), (28, .pop, 1), (29, .lconst 1, 1), (30, .lstore 4, 2), (32, .lconst 1, 1), (33, .lstore 6, 2), (35, .iconst 0, 1), (36, .istore 8, 2), (38, .iload 8, 2), (40, .aload_n 0, 1), (41, .getfield 35, 3), (44, .getfield 110, 3), (47, .if_icmp .ge 47, 3), (50, .aload_n 0, 1), (51, .getfield 57, 3), (54, .iload 8, 2), (56, .iaload, 1), (57, .aload_n 0, 1), (58, .getfield 35, 3), (61, .getfield 140, 3), (64, .iload 8, 2), (66, .iaload, 1), (67, .if_icmp .ge 21, 3), (70, .lload 4, 2)]
def ab_c91_1 : List (Nat × Instr × Nat) := [(72, .bipush 12, 2), (74, .iload_n 2, 1), (75, .isub, 1), (76, .i2l, 1), (77, .lmul, 1), (78, .lstore 4, 2), (80, .lload 6, 2), (82, .ldc2_w 253, 3), (85, .lmul, 1), (86, .lstore 6, 2), (88, .iinc 8 1, 3), (91, .goto (-53), 3), (94, .aload_n 0, 1), (95, .lload 4, 2), (97, .lload 6, 2), (99, .invokevirtual 255, 3), (102, .iconst 1, 1), (103, .ireturn, 1)]
def ab_c91 : List (Nat × Instr × Nat) := ab_c91_0 ++ ab_c91_1
def ab_y91 : MethodName := ⟨"AbsentPost", "odds", "(II)I"⟩
-- 92: AbsentPost.lots(II)I
def ab_c92_0 : List (Nat × Instr × Nat) := [(0, .iload_n 1, 1), (1, .iconst 1, 1), (2, .if_icmp .lt 23, 3), (5, .iload_n 1, 1), (6, .bipush 20, 2), (8, .if_icmp .gt 17, 3), (11, .iload_n 2, 1), (12, .iconst 1, 1), (13, .if_icmp .lt 12, 3), (16, .iload_n 2, 1), (17, .i2l, 1), (18, .ldc2_w 259, 3), (21, .lcmp, 1), (22, .ifCond .lt 5, 3), (25, .iconst (-1), 1), (26, .ireturn, 1), (27, .aload_n 0, 1), (28, .getfield 35, 3), (31, .getfield 110, 3), (34, .ifCond .gt 6, 3), (37, .bipush (-4), 2), (39, .ireturn, 1), (40, .aload_n 0, 1), (41, .getfield 35, 3), (44, .getfield 152, 3), (47, .iload_n 1, 1), (48, .iadd, 1), (49, .bipush 40, 2), (51, .if_icmp .le 6, 3), (54, .bipush (-2), 2), (56, .ireturn, 1), (57, .iload_n 2, 1), (58, .i2l, 1), (59, .lstore_n 3, 1), (60, .iconst 0, 1), (61, .istore 5, 2), (63, .iconst 0, 1), (64, .istore 6, 2), (66, .iload 6, 2), (68, .iload_n 1, 1)]
def ab_c92_1 : List (Nat × Instr × Nat) := [(69, .if_icmp .ge 64, 3), (72, .lload_n 3, 1), (73, .ldc2_w 261, 3), (76, .lmul, 1), (77, .ldc2_w 259, 3), (80, .lrem, 1), (81, .lstore_n 3, 1), (82, .aload_n 0, 1), (83, .getfield 46, 3), (86, .lload_n 3, 1), (87, .aload_n 0, 1), (88, .getfield 35, 3), (91, .getfield 110, 3), (94, .i2l, 1), (95, .lrem, 1), (96, .l2i, 1), (97, .aload_n 0, 1), (98, .getfield 35, 3), (101, .getfield 110, 3), (104, .invokevirtual 263, 3), (107, .iload 5, 2), (109, .aload_n 0, 1), (110, .getfield 35, 3), (113, .aload_n 0, 1), (114, .getfield 46, 3), (117, .aload_n 0, 1), (118, .getfield 60, 3), (121, .invokevirtual 162, 3), (124, .iadd, 1), (125, .istore 5, 2), (127, .iinc 6 1, 3), (130, .goto (-64), 3), (133, .iload 5, 2), (135, .ireturn, 1)]
def ab_c92 : List (Nat × Instr × Nat) := ab_c92_0 ++ ab_c92_1
def ab_y92 : MethodName := ⟨"AbsentPost", "lots", "(II)I"⟩
-- 93: AbsentPost$Round.goAlong(II)V
def ab_c93_0 : List (Nat × Instr × Nat) := [(0, .aload_n 0, 1), (1, .iconst 0, 1), (2, .putfield 21, 3), (5, .iload_n 1, 1), (6, .istore_n 3, 1), (7, .iload_n 3, 1), (8, .iload_n 2, 1), (9, .if_icmp .ge 35, 3), (12, .aload_n 0, 1), (13, .getfield 21, 3), (16, .bipush 12, 2), (18, .if_icmp .ge 26, 3), (21, .aload_n 0, 1), (22, .getfield 9, 3), (25, .aload_n 0, 1), (26, .dup, 1), (27, .getfield 21, 3), (30, .dup_x1, 1), (31, .iconst 1, 1), (32, .iadd, 1), (33, .putfield 21, 3), (36, .iload_n 3, 1), (37, .iastore, 1), (38, .iinc 3 1, 3), (41, .goto (-34), 3), (44, .return_, 1)]
def ab_c93 : List (Nat × Instr × Nat) := ab_c93_0
def ab_y93 : MethodName := ⟨"AbsentPost$Round", "goAlong", "(II)V"⟩
-- 94: AbsentPost.asked()I
def ab_c94_0 : List (Nat × Instr × Nat) := [(0, .aload_n 0, 1), (1, .getfield 82, 3), (4, .ireturn, 1)]
def ab_c94 : List (Nat × Instr × Nat) := ab_c94_0
def ab_y94 : MethodName := ⟨"AbsentPost", "asked", "()I"⟩
-- 95: AbsentPost.upper()J
def ab_c95_0 : List (Nat × Instr × Nat) := [(0, .aload_n 0, 1), (1, .getfield 266, 3), (4, .lreturn, 1)]
def ab_c95 : List (Nat × Instr × Nat) := ab_c95_0
def ab_y95 : MethodName := ⟨"AbsentPost", "upper", "()J"⟩
-- 96: AbsentPost.lower()J
def ab_c96_0 : List (Nat × Instr × Nat) := [(0, .aload_n 0, 1), (1, .getfield 66, 3), (4, .lreturn, 1)]
def ab_c96 : List (Nat × Instr × Nat) := ab_c96_0
def ab_y96 : MethodName := ⟨"AbsentPost", "lower", "()J"⟩
-- 97: AbsentPost.count(I)I
def ab_c97_0 : List (Nat × Instr × Nat) := [(0, .iload_n 1, 1), (1, .ifCond .lt 9, 3), (4, .iload_n 1, 1), (5, .bipush 10, 2), (7, .if_icmp .lt 5, 3), (10, .iconst (-1), 1), (11, .ireturn, 1), (12, .iload_n 1, 1), (13, .tableswitch 139 0 8 #[51, 59, 67, 75, 90, 105, 114, 123, 131], 51), (64, .aload_n 0, 1), (65, .getfield 35, 3), (68, .getfield 110, 3), (71, .ireturn, 1), (72, .aload_n 0, 1), (73, .getfield 35, 3), (76, .getfield 269, 3), (79, .ireturn, 1), (80, .aload_n 0, 1), (81, .getfield 35, 3), (84, .getfield 152, 3), (87, .ireturn, 1), (88, .aload_n 0, 1), (89, .getfield 35, 3), (92, .aload_n 0, 1), (93, .getfield 35, 3), (96, .getfield 140, 3), (99, .invokevirtual 245, 3), (102, .ireturn, 1), (103, .aload_n 0, 1), (104, .getfield 35, 3), (107, .aload_n 0, 1), (108, .getfield 35, 3), (111, .getfield 272, 3), (114, .invokevirtual 245, 3), (117, .ireturn, 1), (118, .aload_n 0, 1), (119, .getfield 35, 3), (122, .iconst 1, 1), (123, .invokevirtual 275, 3), (126, .ireturn, 1)]
def ab_c97_1 : List (Nat × Instr × Nat) := [(127, .aload_n 0, 1), (128, .getfield 35, 3), (131, .iconst 3, 1), (132, .invokevirtual 275, 3), (135, .ireturn, 1), (136, .aload_n 0, 1), (137, .getfield 14, 3), (140, .invokestatic 278, 3), (143, .ireturn, 1), (144, .aload_n 0, 1), (145, .getfield 29, 3), (148, .invokestatic 278, 3), (151, .ireturn, 1), (152, .aload_n 0, 1), (153, .invokevirtual 281, 3), (156, .ireturn, 1)]
def ab_c97 : List (Nat × Instr × Nat) := ab_c97_0 ++ ab_c97_1
def ab_y97 : MethodName := ⟨"AbsentPost", "count", "(I)I"⟩
-- 98: AbsentPost$Post.countKind(I)I
def ab_c98_0 : List (Nat × Instr × Nat) := [(0, .iconst 0, 1), (1, .istore_n 2, 1), (2, .iconst 0, 1), (3, .istore_n 3, 1), (4, .iload_n 3, 1), (5, .aload_n 0, 1), (6, .getfield 34, 3), (9, .if_icmp .ge 25, 3), (12, .aload_n 0, 1), (13, .getfield 9, 3), (16, .iload_n 3, 1), (17, .iaload, 1), (18, .iload_n 1, 1), (19, .invokestatic 84, 3), (22, .ifCond .eq 6, 3), (25, .iinc 2 1, 3), (28, .iinc 3 1, 3), (31, .goto (-27), 3), (34, .iload_n 2, 1), (35, .ireturn, 1)]
def ab_c98 : List (Nat × Instr × Nat) := ab_c98_0
def ab_y98 : MethodName := ⟨"AbsentPost$Post", "countKind", "(I)I"⟩
-- 99: AbsentPost.countThere([I)I
def ab_c99_0 : List (Nat × Instr × Nat) := [(0, .iconst 0, 1), (1, .istore_n 1, 1), (2, .aload_n 0, 1), (3, .astore_n 2, 1), (4, .aload_n 2, 1), (5, .arraylength, 1), (6, .istore_n 3, 1), (7, .iconst 0, 1), (8, .istore 4, 2), (10, .iload 4, 2), (12, .iload_n 3, 1), (13, .if_icmp .ge 23, 3), (16, .aload_n 2, 1), (17, .iload 4, 2), (19, .iaload, 1), (20, .istore 5, 2), (22, .iload 5, 2), (24, .ifCond .lt 6, 3), (27, .iinc 1 1, 3), (30, .iinc 4 1, 3), (33, .goto (-23), 3), (36, .iload_n 1, 1), (37, .ireturn, 1)]
def ab_c99 : List (Nat × Instr × Nat) := ab_c99_0
def ab_y99 : MethodName := ⟨"AbsentPost", "countThere", "([I)I"⟩
-- 100: AbsentPost.countKept()I
def ab_c100_0 : List (Nat × Instr × Nat) := [(0, .iconst 0, 1), (1, .istore_n 1, 1), (2, .iconst 0, 1), (3, .istore_n 2, 1), (4, .iload_n 2, 1), (5, .iconst 3, 1), (6, .if_icmp .ge 24, 3), (9, .aload_n 0, 1), (10, .getfield 39, 3), (13, .iload_n 2, 1), (14, .aaload, 1), (15, .getfield 110, 3), (18, .ifCond .le 6, 3), (21, .iinc 1 1, 3), (24, .iinc 2 1, 3), (27, .goto (-23), 3), (30, .iload_n 1, 1), (31, .ireturn, 1)]
def ab_c100 : List (Nat × Instr × Nat) := ab_c100_0
def ab_y100 : MethodName := ⟨"AbsentPost", "countKept", "()I"⟩
-- 101: AbsentPost.finding()I
def ab_c101_0 : List (Nat × Instr × Nat) := [(0, .aload_n 0, 1), (1, .getfield 284, 3), (4, .ireturn, 1)]
def ab_c101 : List (Nat × Instr × Nat) := ab_c101_0
def ab_y101 : MethodName := ⟨"AbsentPost", "finding", "()I"⟩
-- 102: AbsentPost.findings(I)I
def ab_c102_0 : List (Nat × Instr × Nat) := [(0, .iload_n 1, 1), (1, .iconst 1, 1), (2, .if_icmp .lt 8, 3), (5, .iload_n 1, 1), (6, .iconst 5, 1), (7, .if_icmp .le 5, 3), (10, .iconst (-1), 1), (11, .ireturn, 1), (12, .aload_n 0, 1), (13, .getfield 63, 3), (16, .iload_n 1, 1), (17, .iaload, 1), (18, .ireturn, 1)]
def ab_c102 : List (Nat × Instr × Nat) := ab_c102_0
def ab_y102 : MethodName := ⟨"AbsentPost", "findings", "(I)I"⟩
-- 103: AbsentPost.digest()J
def ab_c103_0 : List (Nat × Instr × Nat) := [(0, .ldc2_w 287, 3), (3, .lstore_n 1, 1), (4, .iconst 0, 1), (5, .istore_n 3, 1), (6, .iload_n 3, 1), (7, .bipush 10, 2), (9, .if_icmp .ge 22, 3), (12, .ldc2_w 289, 3), (15, .lload_n 1, 1), (16, .lmul, 1), (17, .aload_n 0, 1), (18, .iload_n 3, 1), (19, .invokevirtual 291, 3), (22, .i2l, 1), (23, .ladd, 1), (24, .lstore_n 1, 1), (25, .iinc 3 1, 3), (28, .goto (-22), 3), (31, .iconst 0, 1), (32, .istore_n 3, 1), (33, .iload_n 3, 1), (34, .aload_n 0, 1), (35, .getfield 35, 3), (38, .getfield 110, 3), (41, .if_icmp .ge 42, 3), (44, .iconst 0, 1), (45, .istore 4, 2), (47, .iload 4, 2), (49, .iconst 5, 1), (50, .if_icmp .ge 27, 3), (53, .ldc2_w 289, 3), (56, .lload_n 1, 1), (57, .lmul, 1), (58, .aload_n 0, 1), (59, .getfield 35, 3), (62, .iload_n 3, 1), (63, .iload 4, 2), (65, .invokevirtual 116, 3), (68, .i2l, 1), (69, .ladd, 1)]
def ab_c103_1 : List (Nat × Instr × Nat) := [(70, .lstore_n 1, 1), (71, .iinc 4 1, 3), (74, .goto (-27), 3), (77, .iinc 3 1, 3), (80, .goto (-47), 3), (83, .iconst 0, 1), (84, .istore_n 3, 1), (85, .iload_n 3, 1), (86, .iconst 3, 1), (87, .if_icmp .ge 42, 3), (90, .ldc2_w 289, 3), (93, .lload_n 1, 1), (94, .lmul, 1), (95, .aload_n 0, 1), (96, .getfield 39, 3), (99, .iload_n 3, 1), (100, .aaload, 1), (101, .getfield 110, 3), (104, .ifCond .le 15, 3), (107, .aload_n 0, 1), (108, .getfield 39, 3), (111, .iload_n 3, 1), (112, .aaload, 1), (113, .getfield 152, 3), (116, .goto 4, 3), (119, .iconst (-1), 1), (120, .i2l, 1), (121, .ladd, 1), (122, .lstore_n 1, 1), (123, .iinc 3 1, 3), (126, .goto (-41), 3), (129, .iconst 0, 1), (130, .istore_n 3, 1), (131, .iload_n 3, 1), (132, .bipush 6, 2), (134, .if_icmp .ge 60, 3), (137, .ldc2_w 289, 3), (140, .lload_n 1, 1), (141, .lmul, 1), (142, .aload_n 0, 1)]
def ab_c103_2 : List (Nat × Instr × Nat) := [(143, .getfield 14, 3), (146, .iload_n 3, 1), (147, .iaload, 1), (148, .i2l, 1), (149, .ladd, 1), (150, .lstore_n 1, 1), (151, .iconst 0, 1), (152, .istore 4, 2), (154, .iload 4, 2), (156, .aload_n 0, 1), (157, .getfield 14, 3), (160, .iload_n 3, 1), (161, .iaload, 1), (162, .if_icmp .ge 26, 3), (165, .ldc2_w 289, 3), (168, .lload_n 1, 1), (169, .lmul, 1), (170, .aload_n 0, 1), (171, .getfield 11, 3), (174, .iload_n 3, 1), (175, .aaload, 1), (176, .iload 4, 2), (178, .iaload, 1), (179, .i2l, 1), (180, .ladd, 1), (181, .lstore_n 1, 1), (182, .iinc 4 1, 3), (185, .goto (-31), 3), (188, .iinc 3 1, 3), (191, .goto (-60), 3), (194, .iconst 0, 1), (195, .istore_n 3, 1), (196, .iload_n 3, 1), (197, .iconst 4, 1), (198, .if_icmp .ge 60, 3), (201, .ldc2_w 289, 3), (204, .lload_n 1, 1), (205, .lmul, 1), (206, .aload_n 0, 1), (207, .getfield 29, 3)]
def ab_c103_3 : List (Nat × Instr × Nat) := [(210, .iload_n 3, 1), (211, .iaload, 1), (212, .i2l, 1), (213, .ladd, 1), (214, .lstore_n 1, 1), (215, .iconst 0, 1), (216, .istore 4, 2), (218, .iload 4, 2), (220, .aload_n 0, 1), (221, .getfield 29, 3), (224, .iload_n 3, 1), (225, .iaload, 1), (226, .if_icmp .ge 26, 3), (229, .ldc2_w 289, 3), (232, .lload_n 1, 1), (233, .lmul, 1), (234, .aload_n 0, 1), (235, .getfield 26, 3), (238, .iload_n 3, 1), (239, .aaload, 1), (240, .iload 4, 2), (242, .baload, 1), (243, .i2l, 1), (244, .ladd, 1), (245, .lstore_n 1, 1), (246, .iinc 4 1, 3), (249, .goto (-31), 3), (252, .iinc 3 1, 3), (255, .goto (-59), 3), (258, .lload_n 1, 1), (259, .lreturn, 1)]
def ab_c103 : List (Nat × Instr × Nat) := ab_c103_0 ++ ab_c103_1 ++ ab_c103_2 ++ ab_c103_3
def ab_y103 : MethodName := ⟨"AbsentPost", "digest", "()J"⟩
-- 104: AbsentPostModel.<init>()V
def ab_c104_0 : List (Nat × Instr × Nat) := []
def ab_c104 : List (Nat × Instr × Nat) := ab_c104_0
def ab_y104 : MethodName := ⟨"AbsentPostModel", "<init>", "()V"⟩
-- 105: AbsentPostModel.row(II)I
def ab_c105_0 : List (Nat × Instr × Nat) := [(0, .iload_n 1, 1), (1, .invokestatic 62, 3), (4, .ifCond .eq 9, 3), (7, .iload_n 2, 1), (8, .bipush 40, 2), (10, .if_icmp .le 5, 3), (13, .iconst (-1), 1), (14, .ireturn, 1), (15, .iload_n 2, 1), (16, .ifCond .ge 9, 3), (19, .aload_n 0, 1), (20, .iconst 5, 1), (21, .invokevirtual 66, 3), (24, .ireturn, 1), (25, .aload_n 0, 1), (26, .iload_n 1, 1), (27, .iload_n 2, 1), (28, .invokevirtual 70, 3), (31, .iload_n 2, 1), (32, .ireturn, 1)]
def ab_c105 : List (Nat × Instr × Nat) := ab_c105_0
def ab_y105 : MethodName := ⟨"AbsentPostModel", "row", "(II)I"⟩
-- 106: AbsentPostModel.isRow(I)Z
def ab_c106_0 : List (Nat × Instr × Nat) := [(0, .iload_n 0, 1), (1, .i2l, 1), (2, .lconst 0, 1), (3, .ldc2_w 54, 3), (6, .invokestatic 56, 3), (9, .ireturn, 1)]
def ab_c106 : List (Nat × Instr × Nat) := ab_c106_0
def ab_y106 : MethodName := ⟨"AbsentPostModel", "isRow", "(I)Z"⟩
-- 107: AbsentPostModel.in(JJJ)Z
def ab_c107_0 : List (Nat × Instr × Nat) := [(0, .lload_n 0, 1), (1, .lload_n 2, 1), (2, .lcmp, 1), (3, .ifCond .lt 14, 3), (6, .lload_n 0, 1), (7, .lload 4, 2), (9, .lcmp, 1), (10, .ifCond .gt 7, 3), (13, .iconst 1, 1), (14, .goto 4, 3), (17, .iconst 0, 1), (18, .ireturn, 1)]
def ab_c107 : List (Nat × Instr × Nat) := ab_c107_0
def ab_y107 : MethodName := ⟨"AbsentPostModel", "in", "(JJJ)Z"⟩
-- 108: AbsentPostModel.found(I)I
def ab_c108_0 : List (Nat × Instr × Nat) := [(0, .aload_n 0, 1), (1, .iload_n 1, 1), (2, .putfield 47, 3), (5, .aload_n 0, 1), (6, .getfield 31, 3), (9, .iload_n 1, 1), (10, .dup2, 1), (11, .iaload, 1), (12, .iconst 1, 1), (13, .iadd, 1), (14, .iastore, 1), (15, .bipush (-3), 2), (17, .ireturn, 1)]
def ab_c108 : List (Nat × Instr × Nat) := ab_c108_0
def ab_y108 : MethodName := ⟨"AbsentPostModel", "found", "(I)I"⟩
-- 109: AbsentPostModel.anew(II)V
def ab_c109_0 : List (Nat × Instr × Nat) := [(0, .aload_n 0, 1), (1, .getfield 19, 3), (4, .iload_n 1, 1), (5, .iload_n 2, 1), (6, .iastore, 1), (7, .iconst 0, 1), (8, .istore_n 3, 1), (9, .iload_n 3, 1), (10, .bipush 40, 2), (12, .if_icmp .ge 21, 3), (15, .aload_n 0, 1), (16, .getfield 16, 3), (19, .bipush 40, 2), (21, .iload_n 1, 1), (22, .imul, 1), (23, .iload_n 3, 1), (24, .iadd, 1), (25, .iconst 0, 1), (26, .iastore, 1), (27, .iinc 3 1, 3), (30, .goto (-21), 3), (33, .return_, 1)]
def ab_c109 : List (Nat × Instr × Nat) := ab_c109_0
def ab_y109 : MethodName := ⟨"AbsentPostModel", "anew", "(II)V"⟩
-- 110: AbsentPostModel.lay(III)I
def ab_c110_0 : List (Nat × Instr × Nat) := [(0, .aload_n 0, 1), (1, .iload_n 1, 1), (2, .iload_n 2, 1), (3, .invokevirtual 74, 3), (6, .istore 4, 2), (8, .iload 4, 2), (10, .iconst 1, 1), (11, .if_icmp .ne 15, 3), (14, .aload_n 0, 1), (15, .getfield 16, 3), (18, .bipush 40, 2), (20, .iload_n 1, 1), (21, .imul, 1), (22, .iload_n 2, 1), (23, .iadd, 1), (24, .iload_n 3, 1), (25, .iastore, 1), (26, .iload 4, 2), (28, .ireturn, 1)]
def ab_c110 : List (Nat × Instr × Nat) := ab_c110_0
def ab_y110 : MethodName := ⟨"AbsentPostModel", "lay", "(III)I"⟩
-- 111: AbsentPostModel.at(II)I
def ab_c111_0 : List (Nat × Instr × Nat) := [(0, .iload_n 1, 1), (1, .invokestatic 62, 3), (4, .ifCond .ne 5, 3), (7, .iconst (-1), 1), (8, .ireturn, 1), (9, .aload_n 0, 1), (10, .getfield 19, 3), (13, .iload_n 1, 1), (14, .iaload, 1), (15, .ifCond .ge 9, 3), (18, .aload_n 0, 1), (19, .iconst 1, 1), (20, .invokevirtual 66, 3), (23, .ireturn, 1), (24, .iload_n 2, 1), (25, .i2l, 1), (26, .lconst 0, 1), (27, .aload_n 0, 1), (28, .getfield 19, 3), (31, .iload_n 1, 1), (32, .iaload, 1), (33, .iconst 1, 1), (34, .isub, 1), (35, .i2l, 1), (36, .invokestatic 56, 3), (39, .ifCond .eq 22, 3), (42, .aload_n 0, 1), (43, .aload_n 0, 1), (44, .getfield 16, 3), (47, .bipush 40, 2), (49, .iload_n 1, 1), (50, .imul, 1), (51, .iload_n 2, 1), (52, .iadd, 1), (53, .iaload, 1), (54, .iconst 1, 1), (55, .invokevirtual 78, 3), (58, .goto 8, 3), (61, .aload_n 0, 1), (62, .iconst 2, 1)]
def ab_c111_1 : List (Nat × Instr × Nat) := [(63, .invokevirtual 66, 3), (66, .ireturn, 1)]
def ab_c111 : List (Nat × Instr × Nat) := ab_c111_0 ++ ab_c111_1
def ab_y111 : MethodName := ⟨"AbsentPostModel", "at", "(II)I"⟩
-- 112: AbsentPostModel.tells(II)I
def ab_c112_0 : List (Nat × Instr × Nat) := [(0, .aload_n 0, 1), (1, .iload_n 1, 1), (2, .putfield 51, 3), (5, .iload_n 2, 1), (6, .ireturn, 1)]
def ab_c112 : List (Nat × Instr × Nat) := ab_c112_0
def ab_y112 : MethodName := ⟨"AbsentPostModel", "tells", "(II)I"⟩
-- 113: AbsentPostModel.tear(I)I
def ab_c113_0 : List (Nat × Instr × Nat) := [(0, .iload_n 1, 1), (1, .invokestatic 62, 3), (4, .ifCond .ne 5, 3), (7, .iconst (-1), 1), (8, .ireturn, 1), (9, .aload_n 0, 1), (10, .getfield 19, 3), (13, .iload_n 1, 1), (14, .iaload, 1), (15, .ifCond .ge 9, 3), (18, .aload_n 0, 1), (19, .iconst 1, 1), (20, .invokevirtual 66, 3), (23, .ireturn, 1), (24, .aload_n 0, 1), (25, .getfield 19, 3), (28, .iload_n 1, 1), (29, .iconst (-1), 1), (30, .iastore, 1), (31, .iconst 1, 1), (32, .ireturn, 1)]
def ab_c113 : List (Nat × Instr × Nat) := ab_c113_0
def ab_y113 : MethodName := ⟨"AbsentPostModel", "tear", "(I)I"⟩
-- 114: AbsentPostModel.copy(IIIII)I
def ab_c114_0 : List (Nat × Instr × Nat) := [(0, .iload_n 1, 1), (1, .invokestatic 62, 3), (4, .ifCond .eq 10, 3), (7, .iload_n 3, 1), (8, .invokestatic 62, 3), (11, .ifCond .ne 5, 3), (14, .iconst (-1), 1), (15, .ireturn, 1), (16, .iload 5, 2), (18, .ifCond .ge 9, 3), (21, .aload_n 0, 1), (22, .iconst 5, 1), (23, .invokevirtual 66, 3), (26, .ireturn, 1), (27, .aload_n 0, 1), (28, .getfield 19, 3), (31, .iload_n 1, 1), (32, .iaload, 1), (33, .ifCond .lt 12, 3), (36, .aload_n 0, 1), (37, .getfield 19, 3), (40, .iload_n 3, 1), (41, .iaload, 1), (42, .ifCond .ge 9, 3), (45, .aload_n 0, 1), (46, .iconst 1, 1), (47, .invokevirtual 66, 3), (50, .ireturn, 1), (51, .iload_n 2, 1), (52, .iload 5, 2), (54, .aload_n 0, 1), (55, .getfield 19, 3), (58, .iload_n 1, 1), (59, .iaload, 1), (60, .invokestatic 81, 3), (63, .ifCond .eq 19, 3), (66, .iload 4, 2), (68, .iload 5, 2), (70, .aload_n 0, 1), (71, .getfield 19, 3)]
def ab_c114_1 : List (Nat × Instr × Nat) := [(74, .iload_n 3, 1), (75, .iaload, 1), (76, .invokestatic 81, 3), (79, .ifCond .ne 9, 3), (82, .aload_n 0, 1), (83, .iconst 2, 1), (84, .invokevirtual 66, 3), (87, .ireturn, 1), (88, .iconst 0, 1), (89, .istore 6, 2), (91, .iload 6, 2), (93, .iload 5, 2), (95, .if_icmp .ge 30, 3), (98, .aload_n 0, 1), (99, .getfield 28, 3), (102, .iload 6, 2), (104, .aload_n 0, 1), (105, .getfield 16, 3), (108, .bipush 40, 2), (110, .iload_n 1, 1), (111, .imul, 1), (112, .iload_n 2, 1), (113, .iadd, 1), (114, .iload 6, 2), (116, .iadd, 1), (117, .iaload, 1), (118, .iastore, 1), (119, .iinc 6 1, 3), (122, .goto (-31), 3), (125, .iconst 0, 1), (126, .istore 6, 2), (128, .iload 6, 2), (130, .iload 5, 2), (132, .if_icmp .ge 31, 3), (135, .aload_n 0, 1), (136, .getfield 16, 3), (139, .bipush 40, 2), (141, .iload_n 3, 1), (142, .imul, 1), (143, .iload 4, 2)]
def ab_c114_2 : List (Nat × Instr × Nat) := [(145, .iadd, 1), (146, .iload 6, 2), (148, .iadd, 1), (149, .aload_n 0, 1), (150, .getfield 28, 3), (153, .iload 6, 2), (155, .iaload, 1), (156, .iastore, 1), (157, .iinc 6 1, 3), (160, .goto (-32), 3), (163, .iconst 1, 1), (164, .ireturn, 1)]
def ab_c114 : List (Nat × Instr × Nat) := ab_c114_0 ++ ab_c114_1 ++ ab_c114_2
def ab_y114 : MethodName := ⟨"AbsentPostModel", "copy", "(IIIII)I"⟩
-- 115: AbsentPostModel.fits(III)Z
def ab_c115_0 : List (Nat × Instr × Nat) := [(0, .iload_n 0, 1), (1, .ifCond .lt 18, 3), (4, .iload_n 0, 1), (5, .i2l, 1), (6, .iload_n 1, 1), (7, .i2l, 1), (8, .ladd, 1), (9, .iload_n 2, 1), (10, .i2l, 1), (11, .lcmp, 1), (12, .ifCond .gt 7, 3), (15, .iconst 1, 1), (16, .goto 4, 3), (19, .iconst 0, 1), (20, .ireturn, 1)]
def ab_c115 : List (Nat × Instr × Nat) := ab_c115_0
def ab_y115 : MethodName := ⟨"AbsentPostModel", "fits", "(III)Z"⟩
-- 116: AbsentPostModel.mean(I)I
def ab_c116_0 : List (Nat × Instr × Nat) := [(0, .iload_n 1, 1), (1, .invokestatic 62, 3), (4, .ifCond .ne 5, 3), (7, .iconst (-1), 1), (8, .ireturn, 1), (9, .aload_n 0, 1), (10, .getfield 19, 3), (13, .iload_n 1, 1), (14, .iaload, 1), (15, .ifCond .ge 9, 3), (18, .aload_n 0, 1), (19, .iconst 1, 1), (20, .invokevirtual 66, 3), (23, .ireturn, 1), (24, .aload_n 0, 1), (25, .getfield 19, 3), (28, .iload_n 1, 1), (29, .iaload, 1), (30, .ifCond .ne 9, 3), (33, .aload_n 0, 1), (34, .iconst 4, 1), (35, .invokevirtual 66, 3), (38, .ireturn, 1), (39, .lconst 0, 1), (40, .lstore_n 2, 1), (41, .iconst 0, 1), (42, .istore 4, 2), (44, .iload 4, 2), (46, .aload_n 0, 1), (47, .getfield 19, 3), (50, .iload_n 1, 1), (51, .iaload, 1), (52, .if_icmp .ge 25, 3), (55, .lload_n 2, 1), (56, .aload_n 0, 1), (57, .getfield 16, 3), (60, .bipush 40, 2), (62, .iload_n 1, 1), (63, .imul, 1), (64, .iload 4, 2)]
def ab_c116_1 : List (Nat × Instr × Nat) := [(66, .iadd, 1), (67, .iaload, 1), (68, .i2l, 1), (69, .ladd, 1), (70, .lstore_n 2, 1), (71, .iinc 4 1, 3), (74, .goto (-30), 3), (77, .aload_n 0, 1), (78, .lload_n 2, 1), (79, .aload_n 0, 1), (80, .getfield 19, 3), (83, .iload_n 1, 1), (84, .iaload, 1), (85, .i2l, 1), (86, .ldiv, 1), (87, .l2i, 1), (88, .iconst 1, 1), (89, .invokevirtual 78, 3), (92, .ireturn, 1)]
def ab_c116 : List (Nat × Instr × Nat) := ab_c116_0 ++ ab_c116_1
def ab_y116 : MethodName := ⟨"AbsentPostModel", "mean", "(I)I"⟩
-- 117: AbsentPostModel.text(II)I
def ab_c117_0 : List (Nat × Instr × Nat) := [(0, .iload_n 1, 1), (1, .invokestatic 85, 3), (4, .ifCond .eq 9, 3), (7, .iload_n 2, 1), (8, .bipush 60, 2), (10, .if_icmp .le 5, 3), (13, .iconst (-1), 1), (14, .ireturn, 1), (15, .iload_n 2, 1), (16, .ifCond .ge 9, 3), (19, .aload_n 0, 1), (20, .iconst 5, 1), (21, .invokevirtual 66, 3), (24, .ireturn, 1), (25, .aload_n 0, 1), (26, .getfield 25, 3), (29, .iload_n 1, 1), (30, .iload_n 2, 1), (31, .iastore, 1), (32, .iconst 0, 1), (33, .istore_n 3, 1), (34, .iload_n 3, 1), (35, .bipush 60, 2), (37, .if_icmp .ge 22, 3), (40, .aload_n 0, 1), (41, .getfield 22, 3), (44, .bipush 60, 2), (46, .iload_n 1, 1), (47, .imul, 1), (48, .iload_n 3, 1), (49, .iadd, 1), (50, .bipush 32, 2), (52, .iastore, 1), (53, .iinc 3 1, 3), (56, .goto (-22), 3), (59, .iload_n 2, 1), (60, .ireturn, 1)]
def ab_c117 : List (Nat × Instr × Nat) := ab_c117_0
def ab_y117 : MethodName := ⟨"AbsentPostModel", "text", "(II)I"⟩
-- 118: AbsentPostModel.isText(I)Z
def ab_c118_0 : List (Nat × Instr × Nat) := [(0, .iload_n 0, 1), (1, .i2l, 1), (2, .lconst 0, 1), (3, .ldc2_w 60, 3), (6, .invokestatic 56, 3), (9, .ireturn, 1)]
def ab_c118 : List (Nat × Instr × Nat) := ab_c118_0
def ab_y118 : MethodName := ⟨"AbsentPostModel", "isText", "(I)Z"⟩
-- 119: AbsentPostModel.put(III)I
def ab_c119_0 : List (Nat × Instr × Nat) := [(0, .iload_n 1, 1), (1, .invokestatic 85, 3), (4, .ifCond .ne 5, 3), (7, .iconst (-1), 1), (8, .ireturn, 1), (9, .aload_n 0, 1), (10, .getfield 25, 3), (13, .iload_n 1, 1), (14, .iaload, 1), (15, .ifCond .ge 9, 3), (18, .aload_n 0, 1), (19, .iconst 1, 1), (20, .invokevirtual 66, 3), (23, .ireturn, 1), (24, .iload_n 2, 1), (25, .i2l, 1), (26, .lconst 0, 1), (27, .aload_n 0, 1), (28, .getfield 25, 3), (31, .iload_n 1, 1), (32, .iaload, 1), (33, .iconst 1, 1), (34, .isub, 1), (35, .i2l, 1), (36, .invokestatic 56, 3), (39, .ifCond .ne 9, 3), (42, .aload_n 0, 1), (43, .iconst 2, 1), (44, .invokevirtual 66, 3), (47, .ireturn, 1), (48, .aload_n 0, 1), (49, .getfield 22, 3), (52, .bipush 60, 2), (54, .iload_n 1, 1), (55, .imul, 1), (56, .iload_n 2, 1), (57, .iadd, 1), (58, .iaload, 1), (59, .istore 4, 2), (61, .aload_n 0, 1)]
def ab_c119_1 : List (Nat × Instr × Nat) := [(62, .getfield 22, 3), (65, .bipush 60, 2), (67, .iload_n 1, 1), (68, .imul, 1), (69, .iload_n 2, 1), (70, .iadd, 1), (71, .iload_n 3, 1), (72, .i2b, 1), (73, .iastore, 1), (74, .iload 4, 2), (76, .sipush 1000, 3), (79, .iadd, 1), (80, .ireturn, 1)]
def ab_c119 : List (Nat × Instr × Nat) := ab_c119_0 ++ ab_c119_1
def ab_y119 : MethodName := ⟨"AbsentPostModel", "put", "(III)I"⟩
-- 120: AbsentPostModel.fault(I)I
def ab_c120_0 : List (Nat × Instr × Nat) := [(0, .iload_n 1, 1), (1, .invokestatic 85, 3), (4, .ifCond .ne 5, 3), (7, .iconst (-1), 1), (8, .ireturn, 1), (9, .aload_n 0, 1), (10, .getfield 25, 3), (13, .iload_n 1, 1), (14, .iaload, 1), (15, .ifCond .ge 11, 3), (18, .aload_n 0, 1), (19, .iconst 1, 1), (20, .invokevirtual 66, 3), (23, .goto 8, 3), (26, .aload_n 0, 1), (27, .iload_n 1, 1), (28, .invokevirtual 110, 3), (31, .ireturn, 1)]
def ab_c120 : List (Nat × Instr × Nat) := ab_c120_0
def ab_y120 : MethodName := ⟨"AbsentPostModel", "fault", "(I)I"⟩
-- 121: AbsentPostModel.faultOf(I)I
def ab_c121_0 : List (Nat × Instr × Nat) := [(0, .iconst 0, 1), (1, .istore_n 2, 1), (2, .iload_n 2, 1), (3, .bipush 32, 2), (5, .if_icmp .ge 20, 3), (8, .aload_n 0, 1), (9, .getfield 7, 3), (12, .sipush 5248, 3), (15, .iload_n 2, 1), (16, .iadd, 1), (17, .iconst 0, 1), (18, .iastore, 1), (19, .iinc 2 1, 3), (22, .goto (-20), 3), (25, .aload_n 0, 1), (26, .iconst 0, 1), (27, .putfield 88, 3), (30, .aload_n 0, 1), (31, .iload_n 1, 1), (32, .invokevirtual 103, 3), (35, .aload_n 0, 1), (36, .getfield 88, 3), (39, .aload_n 0, 1), (40, .getfield 25, 3), (43, .iload_n 1, 1), (44, .iaload, 1), (45, .if_icmp .lt 14, 3), (48, .aload_n 0, 1), (49, .getfield 7, 3), (52, .sipush 5248, 3), (55, .iaload, 1), (56, .ifCond .ne 24, 3), (59, .aload_n 0, 1), (60, .iload_n 1, 1), (61, .invokevirtual 107, 3), (64, .ifCond .ne 8, 3), (67, .aload_n 0, 1), (68, .getfield 88, 3), (71, .ireturn, 1), (72, .aload_n 0, 1)]
def ab_c121_1 : List (Nat × Instr × Nat) := [(73, .iload_n 1, 1), (74, .invokevirtual 103, 3), (77, .goto (-42), 3), (80, .bipush (-9), 2), (82, .ireturn, 1)]
def ab_c121 : List (Nat × Instr × Nat) := ab_c121_0 ++ ab_c121_1
def ab_y121 : MethodName := ⟨"AbsentPostModel", "faultOf", "(I)I"⟩
-- 122: AbsentPostModel.blanks(I)V
def ab_c122_0 : List (Nat × Instr × Nat) := [(0, .aload_n 0, 1), (1, .iload_n 1, 1), (2, .aload_n 0, 1), (3, .getfield 88, 3), (6, .invokevirtual 91, 3), (9, .bipush 32, 2), (11, .if_icmp .ne 16, 3), (14, .aload_n 0, 1), (15, .dup, 1), (16, .getfield 88, 3), (19, .iconst 1, 1), (20, .iadd, 1), (21, .putfield 88, 3), (24, .goto (-24), 3), (27, .return_, 1)]
def ab_c122 : List (Nat × Instr × Nat) := ab_c122_0
def ab_y122 : MethodName := ⟨"AbsentPostModel", "blanks", "(I)V"⟩
-- 123: AbsentPostModel.byteAt(II)I
def ab_c123_0 : List (Nat × Instr × Nat) := [(0, .iload_n 2, 1), (1, .aload_n 0, 1), (2, .getfield 25, 3), (5, .iload_n 1, 1), (6, .iaload, 1), (7, .if_icmp .ge 17, 3), (10, .aload_n 0, 1), (11, .getfield 22, 3), (14, .bipush 60, 2), (16, .iload_n 1, 1), (17, .imul, 1), (18, .iload_n 2, 1), (19, .iadd, 1), (20, .iaload, 1), (21, .goto 6, 3), (24, .sipush (-1000), 3), (27, .ireturn, 1)]
def ab_c123 : List (Nat × Instr × Nat) := ab_c123_0
def ab_y123 : MethodName := ⟨"AbsentPostModel", "byteAt", "(II)I"⟩
-- 124: AbsentPostModel.takesHouse(I)Z
def ab_c124_0 : List (Nat × Instr × Nat) := [(0, .aload_n 0, 1), (1, .iload_n 1, 1), (2, .aload_n 0, 1), (3, .getfield 88, 3), (6, .invokevirtual 91, 3), (9, .invokestatic 94, 3), (12, .istore_n 2, 1), (13, .aload_n 0, 1), (14, .getfield 7, 3), (17, .sipush 5248, 3), (20, .iaload, 1), (21, .istore_n 3, 1), (22, .iload_n 2, 1), (23, .ifCond .lt 9, 3), (26, .iload_n 3, 1), (27, .bipush 6, 2), (29, .if_icmp .ne 5, 3), (32, .iconst 0, 1), (33, .ireturn, 1), (34, .aload_n 0, 1), (35, .dup, 1), (36, .getfield 88, 3), (39, .iconst 1, 1), (40, .iadd, 1), (41, .putfield 88, 3), (44, .aload_n 0, 1), (45, .iload_n 1, 1), (46, .iconst 1, 1), (47, .invokevirtual 97, 3), (50, .istore 4, 2), (52, .iload 4, 2), (54, .ifCond .ge 7, 3), (57, .iconst (-1), 1), (58, .goto 20, 3), (61, .aload_n 0, 1), (62, .iload_n 1, 1), (63, .iload 4, 2), (65, .iconst 1, 1), (66, .if_icmp .ne 7, 3), (69, .iconst 1, 1)]
def ab_c124_1 : List (Nat × Instr × Nat) := [(70, .goto 5, 3), (73, .bipush 9, 2), (75, .invokevirtual 97, 3), (78, .istore 5, 2), (80, .iload 5, 2), (82, .ifCond .ge 7, 3), (85, .iconst (-1), 1), (86, .goto 10, 3), (89, .aload_n 0, 1), (90, .iload_n 1, 1), (91, .bipush 9, 2), (93, .invokevirtual 97, 3), (96, .istore 6, 2), (98, .iload 6, 2), (100, .ifCond .ge 7, 3), (103, .iconst (-1), 1), (104, .goto 10, 3), (107, .aload_n 0, 1), (108, .iload_n 1, 1), (109, .bipush 9, 2), (111, .invokevirtual 97, 3), (114, .istore 7, 2), (116, .iload 7, 2), (118, .ifCond .ge 5, 3), (121, .iconst 0, 1), (122, .ireturn, 1), (123, .aload_n 0, 1), (124, .getfield 7, 3), (127, .sipush 5250, 3), (130, .iload_n 3, 1), (131, .iadd, 1), (132, .iload_n 2, 1), (133, .iastore, 1), (134, .aload_n 0, 1), (135, .getfield 7, 3), (138, .sipush 5256, 3), (141, .iload_n 3, 1), (142, .iadd, 1), (143, .bipush 10, 2), (145, .iload 4, 2)]
def ab_c124_2 : List (Nat × Instr × Nat) := [(147, .imul, 1), (148, .iload 5, 2), (150, .iadd, 1), (151, .iload 6, 2), (153, .invokestatic 100, 3), (156, .iastore, 1), (157, .aload_n 0, 1), (158, .getfield 7, 3), (161, .sipush 5268, 3), (164, .iload_n 3, 1), (165, .iadd, 1), (166, .iload 7, 2), (168, .iastore, 1), (169, .aload_n 0, 1), (170, .getfield 7, 3), (173, .sipush 5248, 3), (176, .dup2, 1), (177, .iaload, 1), (178, .iconst 1, 1), (179, .iadd, 1), (180, .iastore, 1), (181, .iconst 1, 1), (182, .ireturn, 1)]
def ab_c124 : List (Nat × Instr × Nat) := ab_c124_0 ++ ab_c124_1 ++ ab_c124_2
def ab_y124 : MethodName := ⟨"AbsentPostModel", "takesHouse", "(I)Z"⟩
-- 125: AbsentPostModel.kindOf(I)I
def ab_c125_0 : List (Nat × Instr × Nat) := [(0, .iload_n 0, 1), (1, .bipush 104, 2), (3, .if_icmp .ne 7, 3), (6, .iconst 0, 1), (7, .goto 54, 3), (10, .iload_n 0, 1), (11, .bipush 105, 2), (13, .if_icmp .ne 7, 3), (16, .iconst 1, 1), (17, .goto 44, 3), (20, .iload_n 0, 1), (21, .bipush 102, 2), (23, .if_icmp .ne 7, 3), (26, .iconst 2, 1), (27, .goto 34, 3), (30, .iload_n 0, 1), (31, .bipush 116, 2), (33, .if_icmp .ne 7, 3), (36, .iconst 3, 1), (37, .goto 24, 3), (40, .iload_n 0, 1), (41, .bipush 115, 2), (43, .if_icmp .ne 7, 3), (46, .iconst 4, 1), (47, .goto 14, 3), (50, .iload_n 0, 1), (51, .bipush 100, 2), (53, .if_icmp .ne 7, 3), (56, .iconst 5, 1), (57, .goto 4, 3), (60, .iconst (-1), 1), (61, .ireturn, 1)]
def ab_c125 : List (Nat × Instr × Nat) := ab_c125_0
def ab_y125 : MethodName := ⟨"AbsentPostModel", "kindOf", "(I)I"⟩
-- 126: AbsentPostModel.figure(II)I
def ab_c126_0 : List (Nat × Instr × Nat) := [(0, .aload_n 0, 1), (1, .iload_n 1, 1), (2, .aload_n 0, 1), (3, .getfield 88, 3), (6, .invokevirtual 91, 3), (9, .bipush 48, 2), (11, .isub, 1), (12, .istore_n 3, 1), (13, .iload_n 3, 1), (14, .i2l, 1), (15, .lconst 0, 1), (16, .iload_n 2, 1), (17, .i2l, 1), (18, .invokestatic 56, 3), (21, .ifCond .ne 5, 3), (24, .iconst (-1), 1), (25, .ireturn, 1), (26, .aload_n 0, 1), (27, .dup, 1), (28, .getfield 88, 3), (31, .iconst 1, 1), (32, .iadd, 1), (33, .putfield 88, 3), (36, .iload_n 3, 1), (37, .ireturn, 1)]
def ab_c126 : List (Nat × Instr × Nat) := ab_c126_0
def ab_y126 : MethodName := ⟨"AbsentPostModel", "figure", "(II)I"⟩
-- 127: AbsentPostModel.hoursFrom(II)I
def ab_c127_0 : List (Nat × Instr × Nat) := [(0, .iconst 1, 1), (1, .iload_n 1, 1), (2, .ishl, 1), (3, .iconst 1, 1), (4, .isub, 1), (5, .iload_n 0, 1), (6, .ishl, 1), (7, .sipush 4095, 3), (10, .iand, 1), (11, .ireturn, 1)]
def ab_c127 : List (Nat × Instr × Nat) := ab_c127_0
def ab_y127 : MethodName := ⟨"AbsentPostModel", "hoursFrom", "(II)I"⟩
-- 128: AbsentPostModel.post(I)I
def ab_c128_0 : List (Nat × Instr × Nat) := [(0, .iload_n 1, 1), (1, .invokestatic 85, 3), (4, .ifCond .ne 5, 3), (7, .iconst (-1), 1), (8, .ireturn, 1), (9, .aload_n 0, 1), (10, .getfield 25, 3), (13, .iload_n 1, 1), (14, .iaload, 1), (15, .ifCond .ge 9, 3), (18, .aload_n 0, 1), (19, .iconst 1, 1), (20, .invokevirtual 66, 3), (23, .ireturn, 1), (24, .aload_n 0, 1), (25, .iload_n 1, 1), (26, .invokevirtual 110, 3), (29, .bipush (-9), 2), (31, .if_icmp .eq 6, 3), (34, .bipush (-4), 2), (36, .ireturn, 1), (37, .aload_n 0, 1), (38, .sipush 5248, 3), (41, .iconst 0, 1), (42, .bipush 32, 2), (44, .invokevirtual 113, 3), (47, .aload_n 0, 1), (48, .iconst 0, 1), (49, .putfield 117, 3), (52, .iconst 0, 1), (53, .istore_n 2, 1), (54, .iload_n 2, 1), (55, .iconst 3, 1), (56, .if_icmp .ge 16, 3), (59, .aload_n 0, 1), (60, .getfield 13, 3), (63, .iload_n 2, 1), (64, .iconst (-1), 1), (65, .iastore, 1), (66, .iinc 2 1, 3)]
def ab_c128_1 : List (Nat × Instr × Nat) := [(69, .goto (-15), 3), (72, .aload_n 0, 1), (73, .getfield 7, 3), (76, .iconst 0, 1), (77, .iaload, 1), (78, .ireturn, 1)]
def ab_c128 : List (Nat × Instr × Nat) := ab_c128_0 ++ ab_c128_1
def ab_y128 : MethodName := ⟨"AbsentPostModel", "post", "(I)I"⟩
-- 129: AbsentPostModel.copyAll(III)V
def ab_c129_0 : List (Nat × Instr × Nat) := [(0, .iconst 0, 1), (1, .istore 4, 2), (3, .iload 4, 2), (5, .iload_n 3, 1), (6, .if_icmp .ge 27, 3), (9, .aload_n 0, 1), (10, .getfield 7, 3), (13, .iload_n 2, 1), (14, .iload 4, 2), (16, .iadd, 1), (17, .aload_n 0, 1), (18, .getfield 7, 3), (21, .iload_n 1, 1), (22, .iload 4, 2), (24, .iadd, 1), (25, .iaload, 1), (26, .iastore, 1), (27, .iinc 4 1, 3), (30, .goto (-27), 3), (33, .return_, 1)]
def ab_c129 : List (Nat × Instr × Nat) := ab_c129_0
def ab_y129 : MethodName := ⟨"AbsentPostModel", "copyAll", "(III)V"⟩
-- 130: AbsentPostModel.house(II)I
def ab_c130_0 : List (Nat × Instr × Nat) := [(0, .aload_n 0, 1), (1, .iload_n 1, 1), (2, .invokevirtual 132, 3), (5, .ifCond .eq 15, 3), (8, .iload_n 2, 1), (9, .i2l, 1), (10, .lconst 0, 1), (11, .ldc2_w 135, 3), (14, .invokestatic 56, 3), (17, .ifCond .ne 5, 3), (20, .iconst (-1), 1), (21, .ireturn, 1), (22, .aload_n 0, 1), (23, .aload_n 0, 1), (24, .iload_n 1, 1), (25, .iload_n 2, 1), (26, .invokevirtual 137, 3), (29, .iconst 1, 1), (30, .invokevirtual 78, 3), (33, .ireturn, 1)]
def ab_c130 : List (Nat × Instr × Nat) := ab_c130_0
def ab_y130 : MethodName := ⟨"AbsentPostModel", "house", "(II)I"⟩
-- 131: AbsentPostModel.isHouse(I)Z
def ab_c131_0 : List (Nat × Instr × Nat) := [(0, .iload_n 1, 1), (1, .i2l, 1), (2, .lconst 0, 1), (3, .aload_n 0, 1), (4, .getfield 7, 3), (7, .iconst 0, 1), (8, .iaload, 1), (9, .iconst 1, 1), (10, .isub, 1), (11, .i2l, 1), (12, .invokestatic 56, 3), (15, .ireturn, 1)]
def ab_c131 : List (Nat × Instr × Nat) := ab_c131_0
def ab_y131 : MethodName := ⟨"AbsentPostModel", "isHouse", "(I)Z"⟩
-- 132: AbsentPostModel.houseTells(II)I
def ab_c132_0 : List (Nat × Instr × Nat) := [(0, .iload_n 2, 1), (1, .tableswitch 62 0 3 #[31, 40, 46, 56], 31), (32, .aload_n 0, 1), (33, .getfield 7, 3), (36, .iconst 2, 1), (37, .iload_n 1, 1), (38, .iadd, 1), (39, .iaload, 1), (40, .ireturn, 1), (41, .aload_n 0, 1), (42, .iload_n 1, 1), (43, .invokevirtual 122, 3), (46, .ireturn, 1), (47, .aload_n 0, 1), (48, .getfield 7, 3), (51, .bipush 20, 2), (53, .iload_n 1, 1), (54, .iadd, 1), (55, .iaload, 1), (56, .ireturn, 1), (57, .aload_n 0, 1), (58, .iload_n 1, 1), (59, .invokevirtual 129, 3), (62, .ireturn, 1), (63, .aload_n 0, 1), (64, .getfield 7, 3), (67, .bipush 26, 2), (69, .iload_n 1, 1), (70, .iadd, 1), (71, .iaload, 1), (72, .ireturn, 1)]
def ab_c132 : List (Nat × Instr × Nat) := ab_c132_0
def ab_y132 : MethodName := ⟨"AbsentPostModel", "houseTells", "(II)I"⟩
-- 133: AbsentPostModel.outOf(I)I
def ab_c133_0 : List (Nat × Instr × Nat) := [(0, .aload_n 0, 1), (1, .getfield 7, 3), (4, .bipush 8, 2), (6, .iload_n 1, 1), (7, .iadd, 1), (8, .iaload, 1), (9, .aload_n 0, 1), (10, .getfield 7, 3), (13, .bipush 14, 2), (15, .iload_n 1, 1), (16, .iadd, 1), (17, .iaload, 1), (18, .ior, 1), (19, .ireturn, 1)]
def ab_c133 : List (Nat × Instr × Nat) := ab_c133_0
def ab_y133 : MethodName := ⟨"AbsentPostModel", "outOf", "(I)I"⟩
-- 134: AbsentPostModel.emptyNow(I)I
def ab_c134_0 : List (Nat × Instr × Nat) := [(0, .aload_n 0, 1), (1, .getfield 7, 3), (4, .iconst 2, 1), (5, .iload_n 1, 1), (6, .iadd, 1), (7, .iaload, 1), (8, .aload_n 0, 1), (9, .iload_n 1, 1), (10, .invokevirtual 122, 3), (13, .aload_n 0, 1), (14, .getfield 7, 3), (17, .bipush 14, 2), (19, .iload_n 1, 1), (20, .iadd, 1), (21, .iaload, 1), (22, .invokestatic 125, 3), (25, .ireturn, 1)]
def ab_c134 : List (Nat × Instr × Nat) := ab_c134_0
def ab_y134 : MethodName := ⟨"AbsentPostModel", "emptyNow", "(I)I"⟩
-- 135: AbsentPostModel.emptyOf(III)I
def ab_c135_0 : List (Nat × Instr × Nat) := [(0, .iload_n 1, 1), (1, .iload_n 1, 1), (2, .iconst 1, 1), (3, .ishl, 1), (4, .iconst 1, 1), (5, .ior, 1), (6, .iand, 1), (7, .istore_n 3, 1), (8, .iload_n 0, 1), (9, .tableswitch 61 1 5 #[35, 37, 51, 53, 55], 35), (44, .iload_n 2, 1), (45, .ireturn, 1), (46, .iload_n 1, 1), (47, .iload_n 1, 1), (48, .iconst 1, 1), (49, .ishl, 1), (50, .ior, 1), (51, .iload_n 1, 1), (52, .iconst 1, 1), (53, .ishr, 1), (54, .ior, 1), (55, .sipush 4095, 3), (58, .iand, 1), (59, .ireturn, 1), (60, .iload_n 3, 1), (61, .ireturn, 1), (62, .iconst 0, 1), (63, .ireturn, 1), (64, .iload_n 3, 1), (65, .sipush 1365, 3), (68, .ior, 1), (69, .ireturn, 1), (70, .iload_n 1, 1), (71, .ireturn, 1)]
def ab_c135 : List (Nat × Instr × Nat) := ab_c135_0
def ab_y135 : MethodName := ⟨"AbsentPostModel", "emptyOf", "(III)I"⟩
-- 136: AbsentPostModel.mark(II)I
def ab_c136_0 : List (Nat × Instr × Nat) := [(0, .aload_n 0, 1), (1, .iload_n 1, 1), (2, .invokevirtual 132, 3), (5, .ifCond .eq 15, 3), (8, .iload_n 2, 1), (9, .i2l, 1), (10, .lconst 1, 1), (11, .ldc2_w 54, 3), (14, .invokestatic 56, 3), (17, .ifCond .ne 5, 3), (20, .iconst (-1), 1), (21, .ireturn, 1), (22, .aload_n 0, 1), (23, .getfield 7, 3), (26, .iconst 2, 1), (27, .iload_n 1, 1), (28, .iadd, 1), (29, .iaload, 1), (30, .istore_n 3, 1), (31, .iload_n 3, 1), (32, .iload_n 2, 1), (33, .if_icmp .eq 29, 3), (36, .iload_n 2, 1), (37, .iconst 1, 1), (38, .if_icmp .ne 8, 3), (41, .iload_n 3, 1), (42, .iconst 4, 1), (43, .if_icmp .eq 19, 3), (46, .iload_n 2, 1), (47, .iconst 3, 1), (48, .if_icmp .ne 8, 3), (51, .iload_n 3, 1), (52, .iconst 5, 1), (53, .if_icmp .eq 9, 3), (56, .aload_n 0, 1), (57, .iconst 3, 1), (58, .invokevirtual 66, 3), (61, .ireturn, 1), (62, .aload_n 0, 1), (63, .iload_n 1, 1)]
def ab_c136_1 : List (Nat × Instr × Nat) := [(64, .invokevirtual 129, 3), (67, .istore 4, 2), (69, .iload_n 2, 1), (70, .tableswitch 93 1 4 #[30, 52, 66, 80], 30), (100, .aload_n 0, 1), (101, .iload_n 1, 1), (102, .iconst 1, 1), (103, .isub, 1), (104, .invokevirtual 140, 3), (107, .aload_n 0, 1), (108, .iload_n 1, 1), (109, .invokevirtual 140, 3), (112, .iadd, 1), (113, .aload_n 0, 1), (114, .iload_n 1, 1), (115, .iconst 1, 1), (116, .iadd, 1), (117, .invokevirtual 140, 3), (120, .iadd, 1), (121, .ireturn, 1), (122, .iload 4, 2), (124, .aload_n 0, 1), (125, .iload_n 1, 1), (126, .invokevirtual 122, 3), (129, .iconst (-1), 1), (130, .ixor, 1), (131, .iand, 1), (132, .invokestatic 143, 3), (135, .ireturn, 1), (136, .aload_n 0, 1), (137, .iload_n 1, 1), (138, .invokevirtual 122, 3), (141, .iload 4, 2), (143, .iconst (-1), 1), (144, .ixor, 1), (145, .iand, 1), (146, .invokestatic 143, 3), (149, .ireturn, 1), (150, .bipush 99, 2), (152, .aload_n 0, 1)]
def ab_c136_2 : List (Nat × Instr × Nat) := [(153, .getfield 7, 3), (156, .bipush 20, 2), (158, .iload_n 1, 1), (159, .iadd, 1), (160, .iaload, 1), (161, .isub, 1), (162, .ireturn, 1), (163, .iconst 0, 1), (164, .istore 5, 2), (166, .iload 5, 2), (168, .bipush 12, 2), (170, .if_icmp .ge 19, 3), (173, .iload 4, 2), (175, .iload 5, 2), (177, .invokestatic 146, 3), (180, .ifCond .eq 9, 3), (183, .iinc 5 1, 3), (186, .goto (-20), 3), (189, .iload 5, 2), (191, .bipush 12, 2), (193, .if_icmp .ne 8, 3), (196, .bipush (-9), 2), (198, .goto 5, 3), (201, .iload 5, 2), (203, .ireturn, 1)]
def ab_c136 : List (Nat × Instr × Nat) := ab_c136_0 ++ ab_c136_1 ++ ab_c136_2
def ab_y136 : MethodName := ⟨"AbsentPostModel", "mark", "(II)I"⟩
-- 137: AbsentPostModel.dueOf(I)I
def ab_c137_0 : List (Nat × Instr × Nat) := [(0, .aload_n 0, 1), (1, .iload_n 1, 1), (2, .invokevirtual 132, 3), (5, .ifCond .eq 15, 3), (8, .aload_n 0, 1), (9, .getfield 7, 3), (12, .bipush 20, 2), (14, .iload_n 1, 1), (15, .iadd, 1), (16, .iaload, 1), (17, .goto 4, 3), (20, .iconst 0, 1), (21, .ireturn, 1)]
def ab_c137 : List (Nat × Instr × Nat) := ab_c137_0
def ab_y137 : MethodName := ⟨"AbsentPostModel", "dueOf", "(I)I"⟩
-- 138: AbsentPostModel.ones(I)I
def ab_c138_0 : List (Nat × Instr × Nat) := [(0, .iconst 0, 1), (1, .istore_n 1, 1), (2, .iconst 0, 1), (3, .istore_n 2, 1), (4, .iload_n 2, 1), (5, .bipush 12, 2), (7, .if_icmp .ge 17, 3), (10, .iload_n 1, 1), (11, .iload_n 0, 1), (12, .iload_n 2, 1), (13, .ishr, 1), (14, .iconst 1, 1), (15, .iand, 1), (16, .iadd, 1), (17, .istore_n 1, 1), (18, .iinc 2 1, 3), (21, .goto (-17), 3), (24, .iload_n 1, 1), (25, .ireturn, 1)]
def ab_c138 : List (Nat × Instr × Nat) := ab_c138_0
def ab_y138 : MethodName := ⟨"AbsentPostModel", "ones", "(I)I"⟩
-- 139: AbsentPostModel.has(II)Z
def ab_c139_0 : List (Nat × Instr × Nat) := [(0, .iload_n 0, 1), (1, .iload_n 1, 1), (2, .ishr, 1), (3, .iconst 1, 1), (4, .iand, 1), (5, .iconst 1, 1), (6, .if_icmp .ne 7, 3), (9, .iconst 1, 1), (10, .goto 4, 3), (13, .iconst 0, 1), (14, .ireturn, 1)]
def ab_c139 : List (Nat × Instr × Nat) := ab_c139_0
def ab_y139 : MethodName := ⟨"AbsentPostModel", "has", "(II)Z"⟩
-- 140: AbsentPostModel.errand(II)I
def ab_c140_0 : List (Nat × Instr × Nat) := [(0, .aload_n 0, 1), (1, .iload_n 1, 1), (2, .invokevirtual 132, 3), (5, .ifCond .eq 10, 3), (8, .iload_n 2, 1), (9, .invokestatic 150, 3), (12, .ifCond .ne 5, 3), (15, .iconst (-1), 1), (16, .ireturn, 1), (17, .aload_n 0, 1), (18, .iload_n 1, 1), (19, .invokevirtual 122, 3), (22, .iload_n 2, 1), (23, .invokestatic 146, 3), (26, .ifCond .eq 6, 3), (29, .bipush (-4), 2), (31, .ireturn, 1), (32, .aload_n 0, 1), (33, .getfield 117, 3), (36, .bipush 40, 2), (38, .if_icmp .ne 6, 3), (41, .bipush (-2), 2), (43, .ireturn, 1), (44, .aload_n 0, 1), (45, .invokevirtual 153, 3), (48, .aload_n 0, 1), (49, .getfield 7, 3), (52, .bipush 14, 2), (54, .iload_n 1, 1), (55, .iadd, 1), (56, .dup2, 1), (57, .iaload, 1), (58, .iconst 1, 1), (59, .iload_n 2, 1), (60, .ishl, 1), (61, .ior, 1), (62, .iastore, 1), (63, .aload_n 0, 1), (64, .iload_n 1, 1), (65, .invokevirtual 129, 3)]
def ab_c140_1 : List (Nat × Instr × Nat) := [(68, .invokestatic 143, 3), (71, .ireturn, 1)]
def ab_c140 : List (Nat × Instr × Nat) := ab_c140_0 ++ ab_c140_1
def ab_y140 : MethodName := ⟨"AbsentPostModel", "errand", "(II)I"⟩
-- 141: AbsentPostModel.isHour(I)Z
def ab_c141_0 : List (Nat × Instr × Nat) := [(0, .iload_n 0, 1), (1, .i2l, 1), (2, .lconst 0, 1), (3, .ldc2_w 120, 3), (6, .invokestatic 56, 3), (9, .ireturn, 1)]
def ab_c141 : List (Nat × Instr × Nat) := ab_c141_0
def ab_y141 : MethodName := ⟨"AbsentPostModel", "isHour", "(I)Z"⟩
-- 142: AbsentPostModel.minds()V
def ab_c142_0 : List (Nat × Instr × Nat) := [(0, .aload_n 0, 1), (1, .iconst 0, 1), (2, .bipush 32, 2), (4, .aload_n 0, 1), (5, .getfield 117, 3), (8, .iconst 1, 1), (9, .iadd, 1), (10, .imul, 1), (11, .bipush 32, 2), (13, .invokevirtual 113, 3), (16, .aload_n 0, 1), (17, .dup, 1), (18, .getfield 117, 3), (21, .iconst 1, 1), (22, .iadd, 1), (23, .putfield 117, 3), (26, .return_, 1)]
def ab_c142 : List (Nat × Instr × Nat) := ab_c142_0
def ab_y142 : MethodName := ⟨"AbsentPostModel", "minds", "()V"⟩
-- 143: AbsentPostModel.walk(I)I
def ab_c143_0 : List (Nat × Instr × Nat) := [(0, .aload_n 0, 1), (1, .iload_n 1, 1), (2, .invokevirtual 180, 3), (5, .istore_n 2, 1), (6, .iload_n 2, 1), (7, .ifCond .ge 5, 3), (10, .iload_n 2, 1), (11, .ireturn, 1), (12, .aload_n 0, 1), (13, .getfield 117, 3), (16, .bipush 40, 2), (18, .if_icmp .ne 6, 3), (21, .bipush (-2), 2), (23, .ireturn, 1), (24, .aload_n 0, 1), (25, .invokevirtual 153, 3), (28, .aload_n 0, 1), (29, .invokevirtual 183, 3), (32, .aload_n 0, 1), (33, .iload_n 1, 1), (34, .invokevirtual 186, 3), (37, .aload_n 0, 1), (38, .invokevirtual 189, 3), (41, .aload_n 0, 1), (42, .getfield 165, 3), (45, .ireturn, 1)]
def ab_c143 : List (Nat × Instr × Nat) := ab_c143_0
def ab_y143 : MethodName := ⟨"AbsentPostModel", "walk", "(I)I"⟩
-- 144: AbsentPostModel.against(I)I
def ab_c144_0 : List (Nat × Instr × Nat) := [(0, .iload_n 1, 1), (1, .invokestatic 62, 3), (4, .ifCond .ne 5, 3), (7, .iconst (-1), 1), (8, .ireturn, 1), (9, .aload_n 0, 1), (10, .getfield 7, 3), (13, .iconst 0, 1), (14, .iaload, 1), (15, .ifCond .ne 6, 3), (18, .bipush (-4), 2), (20, .ireturn, 1), (21, .aload_n 0, 1), (22, .getfield 19, 3), (25, .iload_n 1, 1), (26, .iaload, 1), (27, .ifCond .ge 9, 3), (30, .aload_n 0, 1), (31, .iconst 1, 1), (32, .invokevirtual 66, 3), (35, .ireturn, 1), (36, .aload_n 0, 1), (37, .getfield 19, 3), (40, .iload_n 1, 1), (41, .iaload, 1), (42, .bipush 12, 2), (44, .if_icmp .le 9, 3), (47, .aload_n 0, 1), (48, .iconst 5, 1), (49, .invokevirtual 66, 3), (52, .ireturn, 1), (53, .iconst 0, 1), (54, .istore_n 2, 1), (55, .iload_n 2, 1), (56, .aload_n 0, 1), (57, .getfield 19, 3), (60, .iload_n 1, 1), (61, .iaload, 1), (62, .if_icmp .ge 33, 3), (65, .aload_n 0, 1)]
def ab_c144_1 : List (Nat × Instr × Nat) := [(66, .aload_n 0, 1), (67, .getfield 16, 3), (70, .bipush 40, 2), (72, .iload_n 1, 1), (73, .imul, 1), (74, .iload_n 2, 1), (75, .iadd, 1), (76, .iaload, 1), (77, .invokevirtual 132, 3), (80, .ifCond .ne 9, 3), (83, .aload_n 0, 1), (84, .iconst 3, 1), (85, .invokevirtual 66, 3), (88, .ireturn, 1), (89, .iinc 2 1, 3), (92, .goto (-37), 3), (95, .iconst 0, 1), (96, .ireturn, 1)]
def ab_c144 : List (Nat × Instr × Nat) := ab_c144_0 ++ ab_c144_1
def ab_y144 : MethodName := ⟨"AbsentPostModel", "against", "(I)I"⟩
-- 145: AbsentPostModel.begins()V
def ab_c145_0 : List (Nat × Instr × Nat) := [(0, .iconst 0, 1), (1, .istore_n 1, 1), (2, .iload_n 1, 1), (3, .aload_n 0, 1), (4, .getfield 7, 3), (7, .iconst 0, 1), (8, .iaload, 1), (9, .if_icmp .ge 35, 3), (12, .aload_n 0, 1), (13, .getfield 38, 3), (16, .iload_n 1, 1), (17, .aload_n 0, 1), (18, .iload_n 1, 1), (19, .invokevirtual 129, 3), (22, .iastore, 1), (23, .aload_n 0, 1), (24, .getfield 41, 3), (27, .iload_n 1, 1), (28, .aload_n 0, 1), (29, .getfield 7, 3), (32, .bipush 20, 2), (34, .iload_n 1, 1), (35, .iadd, 1), (36, .iaload, 1), (37, .iastore, 1), (38, .iinc 1 1, 3), (41, .goto (-39), 3), (44, .aload_n 0, 1), (45, .invokevirtual 156, 3), (48, .return_, 1)]
def ab_c145 : List (Nat × Instr × Nat) := ab_c145_0
def ab_y145 : MethodName := ⟨"AbsentPostModel", "begins", "()V"⟩
-- 146: AbsentPostModel.sets()V
def ab_c146_0 : List (Nat × Instr × Nat) := [(0, .aload_n 0, 1), (1, .iconst 0, 1), (2, .putfield 159, 3), (5, .aload_n 0, 1), (6, .iconst 0, 1), (7, .putfield 162, 3), (10, .aload_n 0, 1), (11, .iconst 0, 1), (12, .putfield 165, 3), (15, .aload_n 0, 1), (16, .iconst 0, 1), (17, .putfield 168, 3), (20, .aload_n 0, 1), (21, .iconst 0, 1), (22, .putfield 171, 3), (25, .return_, 1)]
def ab_c146 : List (Nat × Instr × Nat) := ab_c146_0
def ab_y146 : MethodName := ⟨"AbsentPostModel", "sets", "()V"⟩
-- 147: AbsentPostModel.goesRound(I)V
def ab_c147_0 : List (Nat × Instr × Nat) := [(0, .aload_n 0, 1), (1, .invokevirtual 156, 3), (4, .iconst 0, 1), (5, .istore_n 2, 1), (6, .iload_n 2, 1), (7, .aload_n 0, 1), (8, .getfield 19, 3), (11, .iload_n 1, 1), (12, .iaload, 1), (13, .if_icmp .ge 25, 3), (16, .aload_n 0, 1), (17, .aload_n 0, 1), (18, .getfield 16, 3), (21, .bipush 40, 2), (23, .iload_n 1, 1), (24, .imul, 1), (25, .iload_n 2, 1), (26, .iadd, 1), (27, .iaload, 1), (28, .invokevirtual 177, 3), (31, .pop, 1), (32, .iinc 2 1, 3), (35, .goto (-29), 3), (38, .return_, 1)]
def ab_c147 : List (Nat × Instr × Nat) := ab_c147_0
def ab_y147 : MethodName := ⟨"AbsentPostModel", "goesRound", "(I)V"⟩
-- 148: AbsentPostModel.goes(I)I
def ab_c148_0 : List (Nat × Instr × Nat) := [(0, .aload_n 0, 1), (1, .dup, 1), (2, .getfield 162, 3), (5, .aload_n 0, 1), (6, .getfield 159, 3), (9, .iload_n 1, 1), (10, .invokestatic 174, 3), (13, .iadd, 1), (14, .putfield 162, 3), (17, .aload_n 0, 1), (18, .iload_n 1, 1), (19, .putfield 159, 3), (22, .aload_n 0, 1), (23, .getfield 162, 3), (26, .bipush 12, 2), (28, .if_icmp .ge 23, 3), (31, .aload_n 0, 1), (32, .getfield 38, 3), (35, .iload_n 1, 1), (36, .iaload, 1), (37, .aload_n 0, 1), (38, .getfield 162, 3), (41, .invokestatic 146, 3), (44, .ifCond .eq 7, 3), (47, .iconst 1, 1), (48, .goto 4, 3), (51, .iconst 0, 1), (52, .istore_n 2, 1), (53, .iload_n 2, 1), (54, .ifCond .eq 12, 3), (57, .aload_n 0, 1), (58, .getfield 41, 3), (61, .iload_n 1, 1), (62, .iaload, 1), (63, .goto 4, 3), (66, .iconst 0, 1), (67, .istore_n 3, 1), (68, .aload_n 0, 1), (69, .getfield 41, 3), (72, .iload_n 1, 1)]
def ab_c148_1 : List (Nat × Instr × Nat) := [(73, .dup2, 1), (74, .iaload, 1), (75, .iload_n 3, 1), (76, .isub, 1), (77, .iastore, 1), (78, .aload_n 0, 1), (79, .dup, 1), (80, .getfield 165, 3), (83, .iload_n 3, 1), (84, .iadd, 1), (85, .putfield 165, 3), (88, .aload_n 0, 1), (89, .dup, 1), (90, .getfield 168, 3), (93, .iload_n 3, 1), (94, .ifCond .le 9, 3), (97, .iconst 1, 1), (98, .iload_n 1, 1), (99, .ishl, 1), (100, .goto 4, 3), (103, .iconst 0, 1), (104, .ior, 1), (105, .putfield 168, 3), (108, .aload_n 0, 1), (109, .iload_n 3, 1), (110, .ifCond .le 10, 3), (113, .aload_n 0, 1), (114, .getfield 162, 3), (117, .goto 7, 3), (120, .aload_n 0, 1), (121, .getfield 171, 3), (124, .putfield 171, 3), (127, .iload_n 3, 1), (128, .ireturn, 1)]
def ab_c148 : List (Nat × Instr × Nat) := ab_c148_0 ++ ab_c148_1
def ab_y148 : MethodName := ⟨"AbsentPostModel", "goes", "(I)I"⟩
-- 149: AbsentPostModel.apart(II)I
def ab_c149_0 : List (Nat × Instr × Nat) := [(0, .iload_n 0, 1), (1, .iload_n 1, 1), (2, .if_icmp .ge 9, 3), (5, .iload_n 1, 1), (6, .iload_n 0, 1), (7, .isub, 1), (8, .goto 6, 3), (11, .iload_n 0, 1), (12, .iload_n 1, 1), (13, .isub, 1), (14, .ireturn, 1)]
def ab_c149 : List (Nat × Instr × Nat) := ab_c149_0
def ab_y149 : MethodName := ⟨"AbsentPostModel", "apart", "(II)I"⟩
-- 150: AbsentPostModel.ends()V
def ab_c150_0 : List (Nat × Instr × Nat) := [(0, .iconst 0, 1), (1, .istore_n 1, 1), (2, .iload_n 1, 1), (3, .aload_n 0, 1), (4, .getfield 7, 3), (7, .iconst 0, 1), (8, .iaload, 1), (9, .if_icmp .ge 91, 3), (12, .aload_n 0, 1), (13, .getfield 7, 3), (16, .bipush 26, 2), (18, .iload_n 1, 1), (19, .iadd, 1), (20, .dup2, 1), (21, .iaload, 1), (22, .aload_n 0, 1), (23, .getfield 7, 3), (26, .bipush 20, 2), (28, .iload_n 1, 1), (29, .iadd, 1), (30, .iaload, 1), (31, .aload_n 0, 1), (32, .getfield 41, 3), (35, .iload_n 1, 1), (36, .iaload, 1), (37, .isub, 1), (38, .iadd, 1), (39, .iastore, 1), (40, .aload_n 0, 1), (41, .getfield 7, 3), (44, .bipush 20, 2), (46, .iload_n 1, 1), (47, .iadd, 1), (48, .aload_n 0, 1), (49, .getfield 41, 3), (52, .iload_n 1, 1), (53, .iaload, 1), (54, .aload_n 0, 1), (55, .getfield 7, 3), (58, .iconst 2, 1)]
def ab_c150_1 : List (Nat × Instr × Nat) := [(59, .iload_n 1, 1), (60, .iadd, 1), (61, .iaload, 1), (62, .iconst 4, 1), (63, .if_icmp .eq 18, 3), (66, .aload_n 0, 1), (67, .getfield 41, 3), (70, .iload_n 1, 1), (71, .iaload, 1), (72, .bipush 99, 2), (74, .if_icmp .ge 7, 3), (77, .iconst 1, 1), (78, .goto 4, 3), (81, .iconst 0, 1), (82, .iadd, 1), (83, .iastore, 1), (84, .aload_n 0, 1), (85, .getfield 7, 3), (88, .bipush 14, 2), (90, .iload_n 1, 1), (91, .iadd, 1), (92, .iconst 0, 1), (93, .iastore, 1), (94, .iinc 1 1, 3), (97, .goto (-95), 3), (100, .aload_n 0, 1), (101, .getfield 7, 3), (104, .iconst 1, 1), (105, .dup2, 1), (106, .iaload, 1), (107, .iconst 1, 1), (108, .iadd, 1), (109, .iastore, 1), (110, .return_, 1)]
def ab_c150 : List (Nat × Instr × Nat) := ab_c150_0 ++ ab_c150_1
def ab_y150 : MethodName := ⟨"AbsentPostModel", "ends", "()V"⟩
-- 151: AbsentPostModel.undo(I)I
def ab_c151_0 : List (Nat × Instr × Nat) := [(0, .iload_n 1, 1), (1, .i2l, 1), (2, .lconst 0, 1), (3, .aload_n 0, 1), (4, .getfield 117, 3), (7, .i2l, 1), (8, .invokestatic 56, 3), (11, .ifCond .ne 5, 3), (14, .iconst (-1), 1), (15, .ireturn, 1), (16, .aload_n 0, 1), (17, .getfield 117, 3), (20, .iload_n 1, 1), (21, .isub, 1), (22, .istore_n 2, 1), (23, .iload_n 2, 1), (24, .ifCond .le 21, 3), (27, .aload_n 0, 1), (28, .bipush 32, 2), (30, .iload_n 1, 1), (31, .iconst 1, 1), (32, .iadd, 1), (33, .imul, 1), (34, .iconst 0, 1), (35, .bipush 32, 2), (37, .invokevirtual 113, 3), (40, .aload_n 0, 1), (41, .iload_n 1, 1), (42, .putfield 117, 3), (45, .iload_n 2, 1), (46, .ireturn, 1)]
def ab_c151 : List (Nat × Instr × Nat) := ab_c151_0
def ab_y151 : MethodName := ⟨"AbsentPostModel", "undo", "(I)I"⟩
-- 152: AbsentPostModel.keep(I)I
def ab_c152_0 : List (Nat × Instr × Nat) := [(0, .iload_n 1, 1), (1, .i2l, 1), (2, .lconst 0, 1), (3, .ldc2_w 192, 3), (6, .invokestatic 56, 3), (9, .ifCond .ne 5, 3), (12, .iconst (-1), 1), (13, .ireturn, 1), (14, .aload_n 0, 1), (15, .getfield 7, 3), (18, .iconst 0, 1), (19, .iaload, 1), (20, .ifCond .ne 6, 3), (23, .bipush (-4), 2), (25, .ireturn, 1), (26, .aload_n 0, 1), (27, .iconst 0, 1), (28, .sipush 1312, 3), (31, .iload_n 1, 1), (32, .iconst 1, 1), (33, .iadd, 1), (34, .imul, 1), (35, .sipush 1312, 3), (38, .invokevirtual 113, 3), (41, .aload_n 0, 1), (42, .getfield 13, 3), (45, .iload_n 1, 1), (46, .aload_n 0, 1), (47, .getfield 117, 3), (50, .iastore, 1), (51, .aload_n 0, 1), (52, .getfield 117, 3), (55, .ireturn, 1)]
def ab_c152 : List (Nat × Instr × Nat) := ab_c152_0
def ab_y152 : MethodName := ⟨"AbsentPostModel", "keep", "(I)I"⟩
-- 153: AbsentPostModel.on(I)I
def ab_c153_0 : List (Nat × Instr × Nat) := [(0, .iload_n 1, 1), (1, .i2l, 1), (2, .lconst 0, 1), (3, .ldc2_w 192, 3), (6, .invokestatic 56, 3), (9, .ifCond .ne 5, 3), (12, .iconst (-1), 1), (13, .ireturn, 1), (14, .aload_n 0, 1), (15, .getfield 13, 3), (18, .iload_n 1, 1), (19, .iaload, 1), (20, .ifCond .ge 9, 3), (23, .aload_n 0, 1), (24, .iconst 1, 1), (25, .invokevirtual 66, 3), (28, .ireturn, 1), (29, .aload_n 0, 1), (30, .sipush 1312, 3), (33, .iload_n 1, 1), (34, .iconst 1, 1), (35, .iadd, 1), (36, .imul, 1), (37, .iconst 0, 1), (38, .sipush 1312, 3), (41, .invokevirtual 113, 3), (44, .aload_n 0, 1), (45, .aload_n 0, 1), (46, .getfield 13, 3), (49, .iload_n 1, 1), (50, .iaload, 1), (51, .putfield 117, 3), (54, .aload_n 0, 1), (55, .getfield 117, 3), (58, .ireturn, 1)]
def ab_c153 : List (Nat × Instr × Nat) := ab_c153_0
def ab_y153 : MethodName := ⟨"AbsentPostModel", "on", "(I)I"⟩
-- 154: AbsentPostModel.empty(I)I
def ab_c154_0 : List (Nat × Instr × Nat) := [(0, .iload_n 1, 1), (1, .invokestatic 150, 3), (4, .ifCond .ne 5, 3), (7, .iconst (-1), 1), (8, .ireturn, 1), (9, .iconst 0, 1), (10, .istore_n 2, 1), (11, .iconst 0, 1), (12, .istore_n 3, 1), (13, .iload_n 3, 1), (14, .aload_n 0, 1), (15, .getfield 7, 3), (18, .iconst 0, 1), (19, .iaload, 1), (20, .if_icmp .ge 31, 3), (23, .iload_n 2, 1), (24, .aload_n 0, 1), (25, .iload_n 3, 1), (26, .invokevirtual 129, 3), (29, .iload_n 1, 1), (30, .invokestatic 146, 3), (33, .ifCond .eq 9, 3), (36, .iconst 1, 1), (37, .iload_n 3, 1), (38, .ishl, 1), (39, .goto 4, 3), (42, .iconst 0, 1), (43, .ior, 1), (44, .istore_n 2, 1), (45, .iinc 3 1, 3), (48, .goto (-35), 3), (51, .iload_n 2, 1), (52, .ireturn, 1)]
def ab_c154 : List (Nat × Instr × Nat) := ab_c154_0
def ab_y154 : MethodName := ⟨"AbsentPostModel", "empty", "(I)I"⟩
-- 155: AbsentPostModel.hour(II)I
def ab_c155_0 : List (Nat × Instr × Nat) := [(0, .iload_n 1, 1), (1, .invokestatic 62, 3), (4, .ifCond .eq 7, 3), (7, .iload_n 2, 1), (8, .ifCond .ge 5, 3), (11, .iconst (-1), 1), (12, .ireturn, 1), (13, .aload_n 0, 1), (14, .iload_n 1, 1), (15, .invokevirtual 180, 3), (18, .istore_n 3, 1), (19, .iload_n 3, 1), (20, .ifCond .ge 5, 3), (23, .iload_n 3, 1), (24, .ireturn, 1), (25, .iload_n 2, 1), (26, .aload_n 0, 1), (27, .getfield 19, 3), (30, .iload_n 1, 1), (31, .iaload, 1), (32, .if_icmp .lt 9, 3), (35, .aload_n 0, 1), (36, .iconst 2, 1), (37, .invokevirtual 66, 3), (40, .ireturn, 1), (41, .iconst 0, 1), (42, .istore 4, 2), (44, .iconst 0, 1), (45, .istore 5, 2), (47, .iload 5, 2), (49, .iload_n 2, 1), (50, .if_icmp .gt 52, 3), (53, .iload 4, 2), (55, .iload 5, 2), (57, .ifCond .ne 7, 3), (60, .iconst 0, 1), (61, .goto 17, 3), (64, .aload_n 0, 1), (65, .getfield 16, 3), (68, .bipush 40, 2)]
def ab_c155_1 : List (Nat × Instr × Nat) := [(70, .iload_n 1, 1), (71, .imul, 1), (72, .iload 5, 2), (74, .iadd, 1), (75, .iconst 1, 1), (76, .isub, 1), (77, .iaload, 1), (78, .aload_n 0, 1), (79, .getfield 16, 3), (82, .bipush 40, 2), (84, .iload_n 1, 1), (85, .imul, 1), (86, .iload 5, 2), (88, .iadd, 1), (89, .iaload, 1), (90, .invokestatic 174, 3), (93, .iadd, 1), (94, .istore 4, 2), (96, .iinc 5 1, 3), (99, .goto (-52), 3), (102, .iload 4, 2), (104, .ireturn, 1)]
def ab_c155 : List (Nat × Instr × Nat) := ab_c155_0 ++ ab_c155_1
def ab_y155 : MethodName := ⟨"AbsentPostModel", "hour", "(II)I"⟩
-- 156: AbsentPostModel.brings(I)I
def ab_c156_0 : List (Nat × Instr × Nat) := [(0, .aload_n 0, 1), (1, .iload_n 1, 1), (2, .invokevirtual 180, 3), (5, .istore_n 2, 1), (6, .iload_n 2, 1), (7, .ifCond .ge 5, 3), (10, .iload_n 2, 1), (11, .ireturn, 1), (12, .aload_n 0, 1), (13, .invokevirtual 183, 3), (16, .aload_n 0, 1), (17, .iload_n 1, 1), (18, .invokevirtual 186, 3), (21, .iconst 0, 1), (22, .istore_n 3, 1), (23, .iconst 0, 1), (24, .istore 4, 2), (26, .iload 4, 2), (28, .aload_n 0, 1), (29, .getfield 7, 3), (32, .iconst 0, 1), (33, .iaload, 1), (34, .if_icmp .ge 30, 3), (37, .iload_n 3, 1), (38, .aload_n 0, 1), (39, .getfield 41, 3), (42, .iload 4, 2), (44, .iaload, 1), (45, .ifCond .ne 10, 3), (48, .iconst 1, 1), (49, .iload 4, 2), (51, .ishl, 1), (52, .goto 4, 3), (55, .iconst 0, 1), (56, .ior, 1), (57, .istore_n 3, 1), (58, .iinc 4 1, 3), (61, .goto (-35), 3), (64, .aload_n 0, 1), (65, .iload_n 3, 1)]
def ab_c156_1 : List (Nat × Instr × Nat) := [(66, .aload_n 0, 1), (67, .getfield 165, 3), (70, .invokevirtual 78, 3), (73, .ireturn, 1)]
def ab_c156 : List (Nat × Instr × Nat) := ab_c156_0 ++ ab_c156_1
def ab_y156 : MethodName := ⟨"AbsentPostModel", "brings", "(I)I"⟩
-- 157: AbsentPostModel.should(II)I
def ab_c157_0 : List (Nat × Instr × Nat) := [(0, .aload_n 0, 1), (1, .iload_n 1, 1), (2, .invokevirtual 132, 3), (5, .ifCond .eq 10, 3), (8, .iload_n 2, 1), (9, .invokestatic 62, 3), (12, .ifCond .ne 5, 3), (15, .iconst (-1), 1), (16, .ireturn, 1), (17, .aload_n 0, 1), (18, .iload_n 2, 1), (19, .invokevirtual 180, 3), (22, .istore_n 3, 1), (23, .iload_n 3, 1), (24, .ifCond .ge 5, 3), (27, .iload_n 3, 1), (28, .ireturn, 1), (29, .aload_n 0, 1), (30, .invokevirtual 183, 3), (33, .aload_n 0, 1), (34, .iload_n 2, 1), (35, .invokevirtual 186, 3), (38, .iconst 0, 1), (39, .istore 4, 2), (41, .iconst 0, 1), (42, .istore 5, 2), (44, .iload 5, 2), (46, .bipush 12, 2), (48, .if_icmp .ge 120, 3), (51, .aload_n 0, 1), (52, .getfield 168, 3), (55, .iload_n 1, 1), (56, .invokestatic 146, 3), (59, .ifCond .ne 109, 3), (62, .aload_n 0, 1), (63, .iload_n 1, 1), (64, .invokevirtual 122, 3), (67, .iload 5, 2), (69, .invokestatic 146, 3), (72, .ifCond .ne 90, 3)]
def ab_c157_1 : List (Nat × Instr × Nat) := [(75, .aload_n 0, 1), (76, .invokevirtual 183, 3), (79, .aload_n 0, 1), (80, .getfield 7, 3), (83, .bipush 14, 2), (85, .iload_n 1, 1), (86, .iadd, 1), (87, .iaload, 1), (88, .iconst 1, 1), (89, .iload 5, 2), (91, .ishl, 1), (92, .ior, 1), (93, .istore 6, 2), (95, .aload_n 0, 1), (96, .getfield 38, 3), (99, .iload_n 1, 1), (100, .aload_n 0, 1), (101, .getfield 7, 3), (104, .iconst 2, 1), (105, .iload_n 1, 1), (106, .iadd, 1), (107, .iaload, 1), (108, .aload_n 0, 1), (109, .iload_n 1, 1), (110, .invokevirtual 122, 3), (113, .iconst 1, 1), (114, .iload 5, 2), (116, .ishl, 1), (117, .ior, 1), (118, .iload 6, 2), (120, .invokestatic 125, 3), (123, .iastore, 1), (124, .aload_n 0, 1), (125, .iload_n 2, 1), (126, .invokevirtual 186, 3), (129, .aload_n 0, 1), (130, .getfield 168, 3), (133, .iload_n 1, 1), (134, .invokestatic 146, 3), (137, .istore 7, 2)]
def ab_c157_2 : List (Nat × Instr × Nat) := [(139, .aload_n 0, 1), (140, .iconst 0, 1), (141, .putfield 168, 3), (144, .iload 4, 2), (146, .iload 7, 2), (148, .ifCond .eq 10, 3), (151, .iconst 1, 1), (152, .iload 5, 2), (154, .ishl, 1), (155, .goto 4, 3), (158, .iconst 0, 1), (159, .ior, 1), (160, .istore 4, 2), (162, .iinc 5 1, 3), (165, .goto (-121), 3), (168, .iload 4, 2), (170, .ireturn, 1)]
def ab_c157 : List (Nat × Instr × Nat) := ab_c157_0 ++ ab_c157_1 ++ ab_c157_2
def ab_y157 : MethodName := ⟨"AbsentPostModel", "should", "(II)I"⟩
-- 158: AbsentPostModel.never()I
def ab_c158_0 : List (Nat × Instr × Nat) := [(0, .iconst 0, 1), (1, .istore_n 1, 1), (2, .iconst 0, 1), (3, .istore_n 2, 1), (4, .iload_n 2, 1), (5, .aload_n 0, 1), (6, .getfield 7, 3), (9, .iconst 0, 1), (10, .iaload, 1), (11, .if_icmp .ge 29, 3), (14, .iload_n 1, 1), (15, .aload_n 0, 1), (16, .iload_n 2, 1), (17, .invokevirtual 129, 3), (20, .iload_n 2, 1), (21, .ishr, 1), (22, .ifCond .ne 9, 3), (25, .iconst 1, 1), (26, .iload_n 2, 1), (27, .ishl, 1), (28, .goto 4, 3), (31, .iconst 0, 1), (32, .ior, 1), (33, .istore_n 1, 1), (34, .iinc 2 1, 3), (37, .goto (-33), 3), (40, .iload_n 1, 1), (41, .ireturn, 1)]
def ab_c158 : List (Nat × Instr × Nat) := ab_c158_0
def ab_y158 : MethodName := ⟨"AbsentPostModel", "never", "()I"⟩
-- 159: AbsentPostModel.best(I)I
def ab_c159_0 : List (Nat × Instr × Nat) := [(0, .iload_n 1, 1), (1, .invokestatic 62, 3), (4, .ifCond .ne 5, 3), (7, .iconst (-1), 1), (8, .ireturn, 1), (9, .aload_n 0, 1), (10, .getfield 7, 3), (13, .iconst 0, 1), (14, .iaload, 1), (15, .ifCond .ne 6, 3), (18, .bipush (-4), 2), (20, .ireturn, 1), (21, .aload_n 0, 1), (22, .invokevirtual 210, 3), (25, .istore_n 2, 1), (26, .aload_n 0, 1), (27, .invokevirtual 200, 3), (30, .aload_n 0, 1), (31, .invokevirtual 207, 3), (34, .aload_n 0, 1), (35, .getfield 165, 3), (38, .iload_n 2, 1), (39, .if_icmp .ge 7, 3), (42, .iconst 1, 1), (43, .goto 4, 3), (46, .iconst 0, 1), (47, .istore_n 3, 1), (48, .iload_n 3, 1), (49, .ifCond .eq 33, 3), (52, .aload_n 0, 1), (53, .invokevirtual 203, 3), (56, .istore_n 3, 1), (57, .aload_n 0, 1), (58, .invokevirtual 207, 3), (61, .iload_n 3, 1), (62, .ifCond .eq 15, 3), (65, .aload_n 0, 1), (66, .getfield 165, 3), (69, .iload_n 2, 1), (70, .if_icmp .ge 7, 3)]
def ab_c159_1 : List (Nat × Instr × Nat) := [(73, .iconst 1, 1), (74, .goto 4, 3), (77, .iconst 0, 1), (78, .istore_n 3, 1), (79, .goto (-31), 3), (82, .aload_n 0, 1), (83, .iload_n 1, 1), (84, .aload_n 0, 1), (85, .getfield 194, 3), (88, .invokevirtual 70, 3), (91, .iconst 0, 1), (92, .istore 4, 2), (94, .iload 4, 2), (96, .aload_n 0, 1), (97, .getfield 194, 3), (100, .if_icmp .ge 28, 3), (103, .aload_n 0, 1), (104, .getfield 16, 3), (107, .bipush 40, 2), (109, .iload_n 1, 1), (110, .imul, 1), (111, .iload 4, 2), (113, .iadd, 1), (114, .aload_n 0, 1), (115, .getfield 44, 3), (118, .iload 4, 2), (120, .iaload, 1), (121, .iastore, 1), (122, .iinc 4 1, 3), (125, .goto (-31), 3), (128, .iload_n 2, 1), (129, .ireturn, 1)]
def ab_c159 : List (Nat × Instr × Nat) := ab_c159_0 ++ ab_c159_1
def ab_y159 : MethodName := ⟨"AbsentPostModel", "best", "(I)I"⟩
-- 160: AbsentPostModel.mostLetters()I
def ab_c160_0 : List (Nat × Instr × Nat) := [(0, .iconst 0, 1), (1, .istore_n 1, 1), (2, .aload_n 0, 1), (3, .invokevirtual 183, 3), (6, .aload_n 0, 1), (7, .invokevirtual 200, 3), (10, .aload_n 0, 1), (11, .invokevirtual 203, 3), (14, .ifCond .eq 27, 3), (17, .aload_n 0, 1), (18, .invokevirtual 207, 3), (21, .aload_n 0, 1), (22, .getfield 165, 3), (25, .iload_n 1, 1), (26, .if_icmp .le 10, 3), (29, .aload_n 0, 1), (30, .getfield 165, 3), (33, .goto 4, 3), (36, .iload_n 1, 1), (37, .istore_n 1, 1), (38, .goto (-28), 3), (41, .iload_n 1, 1), (42, .ireturn, 1)]
def ab_c160 : List (Nat × Instr × Nat) := ab_c160_0
def ab_y160 : MethodName := ⟨"AbsentPostModel", "mostLetters", "()I"⟩
-- 161: AbsentPostModel.clears()V
def ab_c161_0 : List (Nat × Instr × Nat) := [(0, .aload_n 0, 1), (1, .iconst 0, 1), (2, .putfield 194, 3), (5, .aload_n 0, 1), (6, .iconst 0, 1), (7, .putfield 197, 3), (10, .aload_n 0, 1), (11, .getfield 44, 3), (14, .iconst 0, 1), (15, .iconst (-1), 1), (16, .iastore, 1), (17, .return_, 1)]
def ab_c161 : List (Nat × Instr × Nat) := ab_c161_0
def ab_y161 : MethodName := ⟨"AbsentPostModel", "clears", "()V"⟩
-- 162: AbsentPostModel.goesOn()Z
def ab_c162_0 : List (Nat × Instr × Nat) := [(0, .iconst 0, 1), (1, .istore_n 1, 1), (2, .iload_n 1, 1), (3, .aload_n 0, 1), (4, .getfield 7, 3), (7, .iconst 0, 1), (8, .iaload, 1), (9, .if_icmp .ge 20, 3), (12, .aload_n 0, 1), (13, .getfield 197, 3), (16, .iload_n 1, 1), (17, .invokestatic 146, 3), (20, .ifCond .eq 9, 3), (23, .iinc 1 1, 3), (26, .goto (-24), 3), (29, .iload_n 1, 1), (30, .aload_n 0, 1), (31, .getfield 7, 3), (34, .iconst 0, 1), (35, .iaload, 1), (36, .if_icmp .ne 81, 3), (39, .aload_n 0, 1), (40, .getfield 194, 3), (43, .ifCond .le 74, 3), (46, .aload_n 0, 1), (47, .dup, 1), (48, .getfield 194, 3), (51, .iconst 1, 1), (52, .isub, 1), (53, .putfield 194, 3), (56, .aload_n 0, 1), (57, .getfield 44, 3), (60, .aload_n 0, 1), (61, .getfield 194, 3), (64, .iaload, 1), (65, .iconst 1, 1), (66, .iadd, 1), (67, .istore_n 1, 1), (68, .aload_n 0, 1), (69, .dup, 1)]
def ab_c162_1 : List (Nat × Instr × Nat) := [(70, .getfield 197, 3), (73, .iconst 1, 1), (74, .aload_n 0, 1), (75, .getfield 44, 3), (78, .aload_n 0, 1), (79, .getfield 194, 3), (82, .iaload, 1), (83, .ishl, 1), (84, .iconst (-1), 1), (85, .ixor, 1), (86, .iand, 1), (87, .putfield 197, 3), (90, .iload_n 1, 1), (91, .aload_n 0, 1), (92, .getfield 7, 3), (95, .iconst 0, 1), (96, .iaload, 1), (97, .if_icmp .ge (-68), 3), (100, .aload_n 0, 1), (101, .getfield 197, 3), (104, .iload_n 1, 1), (105, .invokestatic 146, 3), (108, .ifCond .eq (-79), 3), (111, .iinc 1 1, 3), (114, .goto (-24), 3), (117, .iload_n 1, 1), (118, .aload_n 0, 1), (119, .getfield 7, 3), (122, .iconst 0, 1), (123, .iaload, 1), (124, .if_icmp .ne 5, 3), (127, .iconst 0, 1), (128, .ireturn, 1), (129, .aload_n 0, 1), (130, .getfield 44, 3), (133, .aload_n 0, 1), (134, .getfield 194, 3), (137, .iload_n 1, 1), (138, .iastore, 1), (139, .aload_n 0, 1)]
def ab_c162_2 : List (Nat × Instr × Nat) := [(140, .dup, 1), (141, .getfield 197, 3), (144, .iconst 1, 1), (145, .iload_n 1, 1), (146, .ishl, 1), (147, .ior, 1), (148, .putfield 197, 3), (151, .aload_n 0, 1), (152, .dup, 1), (153, .getfield 194, 3), (156, .iconst 1, 1), (157, .iadd, 1), (158, .putfield 194, 3), (161, .iconst 1, 1), (162, .ireturn, 1)]
def ab_c162 : List (Nat × Instr × Nat) := ab_c162_0 ++ ab_c162_1 ++ ab_c162_2
def ab_y162 : MethodName := ⟨"AbsentPostModel", "goesOn", "()Z"⟩
-- 163: AbsentPostModel.tries()V
def ab_c163_0 : List (Nat × Instr × Nat) := [(0, .iconst 0, 1), (1, .istore_n 1, 1), (2, .iload_n 1, 1), (3, .aload_n 0, 1), (4, .getfield 7, 3), (7, .iconst 0, 1), (8, .iaload, 1), (9, .if_icmp .ge 24, 3), (12, .aload_n 0, 1), (13, .getfield 41, 3), (16, .iload_n 1, 1), (17, .aload_n 0, 1), (18, .getfield 7, 3), (21, .bipush 20, 2), (23, .iload_n 1, 1), (24, .iadd, 1), (25, .iaload, 1), (26, .iastore, 1), (27, .iinc 1 1, 3), (30, .goto (-28), 3), (33, .aload_n 0, 1), (34, .invokevirtual 156, 3), (37, .iconst 0, 1), (38, .istore_n 1, 1), (39, .iload_n 1, 1), (40, .aload_n 0, 1), (41, .getfield 194, 3), (44, .if_icmp .ge 20, 3), (47, .aload_n 0, 1), (48, .aload_n 0, 1), (49, .getfield 44, 3), (52, .iload_n 1, 1), (53, .iaload, 1), (54, .invokevirtual 177, 3), (57, .pop, 1), (58, .iinc 1 1, 3), (61, .goto (-22), 3), (64, .return_, 1)]
def ab_c163 : List (Nat × Instr × Nat) := ab_c163_0
def ab_y163 : MethodName := ⟨"AbsentPostModel", "tries", "()V"⟩
-- 164: AbsentPostModel.most()I
def ab_c164_0 : List (Nat × Instr × Nat) := [(0, .aload_n 0, 1), (1, .getfield 7, 3), (4, .iconst 0, 1), (5, .iaload, 1), (6, .ifCond .ne 6, 3), (9, .bipush (-4), 2), (11, .ireturn, 1), (12, .iconst 0, 1), (13, .istore_n 1, 1), (14, .iconst 1, 1), (15, .istore_n 2, 1), (16, .aload_n 0, 1), (17, .invokevirtual 183, 3), (20, .aload_n 0, 1), (21, .invokevirtual 200, 3), (24, .aload_n 0, 1), (25, .invokevirtual 203, 3), (28, .ifCond .eq 51, 3), (31, .aload_n 0, 1), (32, .invokevirtual 207, 3), (35, .aload_n 0, 1), (36, .getfield 168, 3), (39, .invokestatic 143, 3), (42, .istore_n 3, 1), (43, .iload_n 3, 1), (44, .iload_n 1, 1), (45, .if_icmp .le 7, 3), (48, .iconst 1, 1), (49, .goto 15, 3), (52, .iload_n 3, 1), (53, .iload_n 1, 1), (54, .if_icmp .ne 9, 3), (57, .iload_n 2, 1), (58, .iconst 1, 1), (59, .iadd, 1), (60, .goto 4, 3), (63, .iload_n 2, 1), (64, .istore_n 2, 1), (65, .iload_n 3, 1), (66, .iload_n 1, 1)]
def ab_c164_1 : List (Nat × Instr × Nat) := [(67, .if_icmp .le 7, 3), (70, .iload_n 3, 1), (71, .goto 4, 3), (74, .iload_n 1, 1), (75, .istore_n 1, 1), (76, .goto (-52), 3), (79, .aload_n 0, 1), (80, .iload_n 2, 1), (81, .iload_n 1, 1), (82, .invokevirtual 78, 3), (85, .ireturn, 1)]
def ab_c164 : List (Nat × Instr × Nat) := ab_c164_0 ++ ab_c164_1
def ab_y164 : MethodName := ⟨"AbsentPostModel", "most", "()I"⟩
-- 165: AbsentPostModel.soon()I
def ab_c165_0 : List (Nat × Instr × Nat) := [(0, .aload_n 0, 1), (1, .getfield 7, 3), (4, .iconst 0, 1), (5, .iaload, 1), (6, .ifCond .ne 6, 3), (9, .bipush (-4), 2), (11, .ireturn, 1), (12, .aload_n 0, 1), (13, .invokevirtual 210, 3), (16, .istore_n 1, 1), (17, .iload_n 1, 1), (18, .ifCond .ne 7, 3), (21, .iconst 0, 1), (22, .goto 5, 3), (25, .bipush 12, 2), (27, .istore_n 2, 1), (28, .aload_n 0, 1), (29, .invokevirtual 200, 3), (32, .aload_n 0, 1), (33, .invokevirtual 203, 3), (36, .ifCond .eq 35, 3), (39, .aload_n 0, 1), (40, .invokevirtual 207, 3), (43, .aload_n 0, 1), (44, .getfield 165, 3), (47, .iload_n 1, 1), (48, .if_icmp .ne 18, 3), (51, .aload_n 0, 1), (52, .getfield 171, 3), (55, .iload_n 2, 1), (56, .if_icmp .ge 10, 3), (59, .aload_n 0, 1), (60, .getfield 171, 3), (63, .goto 4, 3), (66, .iload_n 2, 1), (67, .istore_n 2, 1), (68, .goto (-36), 3), (71, .iload_n 2, 1), (72, .ireturn, 1)]
def ab_c165 : List (Nat × Instr × Nat) := ab_c165_0
def ab_y165 : MethodName := ⟨"AbsentPostModel", "soon", "()I"⟩
-- 166: AbsentPostModel.errands()I
def ab_c166_0 : List (Nat × Instr × Nat) := [(0, .aload_n 0, 1), (1, .getfield 7, 3), (4, .iconst 0, 1), (5, .iaload, 1), (6, .ifCond .ne 6, 3), (9, .bipush (-4), 2), (11, .ireturn, 1), (12, .iconst 0, 1), (13, .istore_n 1, 1), (14, .iconst 0, 1), (15, .istore_n 2, 1), (16, .iload_n 2, 1), (17, .aload_n 0, 1), (18, .getfield 7, 3), (21, .iconst 0, 1), (22, .iaload, 1), (23, .if_icmp .ge 50, 3), (26, .iload_n 1, 1), (27, .ifCond .lt 46, 3), (30, .aload_n 0, 1), (31, .getfield 7, 3), (34, .bipush 20, 2), (36, .iload_n 2, 1), (37, .iadd, 1), (38, .iaload, 1), (39, .ifCond .le 12, 3), (42, .aload_n 0, 1), (43, .iload_n 2, 1), (44, .iload_n 2, 1), (45, .invokevirtual 214, 3), (48, .goto 4, 3), (51, .iconst 0, 1), (52, .istore_n 3, 1), (53, .iload_n 3, 1), (54, .iconst 3, 1), (55, .if_icmp .ne 8, 3), (58, .bipush (-9), 2), (60, .goto 6, 3), (63, .iload_n 1, 1), (64, .iload_n 3, 1)]
def ab_c166_1 : List (Nat × Instr × Nat) := [(65, .iadd, 1), (66, .istore_n 1, 1), (67, .iinc 2 1, 3), (70, .goto (-54), 3), (73, .iload_n 1, 1), (74, .ireturn, 1)]
def ab_c166 : List (Nat × Instr × Nat) := ab_c166_0 ++ ab_c166_1
def ab_y166 : MethodName := ⟨"AbsentPostModel", "errands", "()I"⟩
-- 167: AbsentPostModel.errandsFor(II)I
def ab_c167_0 : List (Nat × Instr × Nat) := [(0, .aload_n 0, 1), (1, .iload_n 1, 1), (2, .invokevirtual 122, 3), (5, .istore_n 3, 1), (6, .aload_n 0, 1), (7, .iload_n 1, 1), (8, .invokevirtual 129, 3), (11, .iload_n 2, 1), (12, .invokestatic 146, 3), (15, .ifCond .eq 7, 3), (18, .iconst 0, 1), (19, .goto 4, 3), (22, .iconst 3, 1), (23, .istore 4, 2), (25, .iconst 0, 1), (26, .istore 5, 2), (28, .iload 5, 2), (30, .bipush 12, 2), (32, .if_icmp .ge 142, 3), (35, .iconst 0, 1), (36, .istore 6, 2), (38, .iload 6, 2), (40, .iload 5, 2), (42, .if_icmp .gt 126, 3), (45, .iload_n 3, 1), (46, .iload 5, 2), (48, .invokestatic 146, 3), (51, .ifCond .ne 16, 3), (54, .iload_n 3, 1), (55, .iload 6, 2), (57, .invokestatic 146, 3), (60, .ifCond .ne 7, 3), (63, .iconst 1, 1), (64, .goto 4, 3), (67, .iconst 0, 1), (68, .istore 7, 2), (70, .aload_n 0, 1), (71, .getfield 7, 3), (74, .bipush 14, 2), (76, .iload_n 1, 1)]
def ab_c167_1 : List (Nat × Instr × Nat) := [(77, .iadd, 1), (78, .iaload, 1), (79, .iconst 1, 1), (80, .iload 5, 2), (82, .ishl, 1), (83, .ior, 1), (84, .iconst 1, 1), (85, .iload 6, 2), (87, .ishl, 1), (88, .ior, 1), (89, .istore 8, 2), (91, .iload 7, 2), (93, .ifCond .eq 31, 3), (96, .aload_n 0, 1), (97, .getfield 7, 3), (100, .iconst 2, 1), (101, .iload_n 1, 1), (102, .iadd, 1), (103, .iaload, 1), (104, .iload_n 3, 1), (105, .iload 8, 2), (107, .ior, 1), (108, .iload 8, 2), (110, .invokestatic 125, 3), (113, .iload_n 2, 1), (114, .invokestatic 146, 3), (117, .ifCond .eq 7, 3), (120, .iconst 1, 1), (121, .goto 4, 3), (124, .iconst 0, 1), (125, .istore 9, 2), (127, .iload 5, 2), (129, .iload 6, 2), (131, .if_icmp .ne 7, 3), (134, .iconst 1, 1), (135, .goto 4, 3), (138, .iconst 2, 1), (139, .istore 10, 2), (141, .iload 9, 2), (143, .ifCond .eq 15, 3)]
def ab_c167_2 : List (Nat × Instr × Nat) := [(146, .iload 10, 2), (148, .iload 4, 2), (150, .if_icmp .ge 8, 3), (153, .iload 10, 2), (155, .goto 5, 3), (158, .iload 4, 2), (160, .istore 4, 2), (162, .iinc 6 1, 3), (165, .goto (-127), 3), (168, .iinc 5 1, 3), (171, .goto (-143), 3), (174, .iload 4, 2), (176, .ireturn, 1)]
def ab_c167 : List (Nat × Instr × Nat) := ab_c167_0 ++ ab_c167_1 ++ ab_c167_2
def ab_y167 : MethodName := ⟨"AbsentPostModel", "errandsFor", "(II)I"⟩
-- 168: AbsentPostModel.kinds(II)I
def ab_c168_0 : List (Nat × Instr × Nat) := [(0, .aload_n 0, 1), (1, .iload_n 1, 1), (2, .invokevirtual 132, 3), (5, .ifCond .eq 10, 3), (8, .iload_n 2, 1), (9, .invokestatic 62, 3), (12, .ifCond .ne 5, 3), (15, .iconst (-1), 1), (16, .ireturn, 1), (17, .aload_n 0, 1), (18, .iload_n 2, 1), (19, .invokevirtual 217, 3), (22, .istore_n 3, 1), (23, .iload_n 3, 1), (24, .ifCond .ge 5, 3), (27, .iload_n 3, 1), (28, .ireturn, 1), (29, .iconst 0, 1), (30, .istore 4, 2), (32, .iconst 0, 1), (33, .istore 5, 2), (35, .iload 5, 2), (37, .bipush 6, 2), (39, .if_icmp .ge 49, 3), (42, .iload 4, 2), (44, .aload_n 0, 1), (45, .iload_n 2, 1), (46, .iload 5, 2), (48, .aload_n 0, 1), (49, .iload_n 1, 1), (50, .invokevirtual 122, 3), (53, .aload_n 0, 1), (54, .getfield 7, 3), (57, .bipush 14, 2), (59, .iload_n 1, 1), (60, .iadd, 1), (61, .iaload, 1), (62, .invokestatic 125, 3), (65, .invokevirtual 220, 3), (68, .ifCond .eq 10, 3)]
def ab_c168_1 : List (Nat × Instr × Nat) := [(71, .iconst 1, 1), (72, .iload 5, 2), (74, .ishl, 1), (75, .goto 4, 3), (78, .iconst 0, 1), (79, .ior, 1), (80, .istore 4, 2), (82, .iinc 5 1, 3), (85, .goto (-50), 3), (88, .iload 4, 2), (90, .ireturn, 1)]
def ab_c168 : List (Nat × Instr × Nat) := ab_c168_0 ++ ab_c168_1
def ab_y168 : MethodName := ⟨"AbsentPostModel", "kinds", "(II)I"⟩
-- 169: AbsentPostModel.againstSeen(I)I
def ab_c169_0 : List (Nat × Instr × Nat) := [(0, .aload_n 0, 1), (1, .getfield 19, 3), (4, .iload_n 1, 1), (5, .iaload, 1), (6, .ifCond .ge 9, 3), (9, .aload_n 0, 1), (10, .iconst 1, 1), (11, .invokevirtual 66, 3), (14, .ireturn, 1), (15, .aload_n 0, 1), (16, .getfield 19, 3), (19, .iload_n 1, 1), (20, .iaload, 1), (21, .iconst 2, 1), (22, .irem, 1), (23, .ifCond .eq 9, 3), (26, .aload_n 0, 1), (27, .iconst 5, 1), (28, .invokevirtual 66, 3), (31, .ireturn, 1), (32, .iconst 0, 1), (33, .istore_n 2, 1), (34, .iload_n 2, 1), (35, .aload_n 0, 1), (36, .getfield 19, 3), (39, .iload_n 1, 1), (40, .iaload, 1), (41, .if_icmp .ge 54, 3), (44, .aload_n 0, 1), (45, .getfield 16, 3), (48, .bipush 40, 2), (50, .iload_n 1, 1), (51, .imul, 1), (52, .iload_n 2, 1), (53, .iadd, 1), (54, .iaload, 1), (55, .invokestatic 150, 3), (58, .ifCond .eq 25, 3), (61, .aload_n 0, 1), (62, .getfield 16, 3)]
def ab_c169_1 : List (Nat × Instr × Nat) := [(65, .bipush 40, 2), (67, .iload_n 1, 1), (68, .imul, 1), (69, .iload_n 2, 1), (70, .iadd, 1), (71, .iconst 1, 1), (72, .iadd, 1), (73, .iaload, 1), (74, .i2l, 1), (75, .lconst 0, 1), (76, .lconst 1, 1), (77, .invokestatic 56, 3), (80, .ifCond .ne 9, 3), (83, .aload_n 0, 1), (84, .iconst 3, 1), (85, .invokevirtual 66, 3), (88, .ireturn, 1), (89, .iinc 2 2, 3), (92, .goto (-58), 3), (95, .iconst 0, 1), (96, .ireturn, 1)]
def ab_c169 : List (Nat × Instr × Nat) := ab_c169_0 ++ ab_c169_1
def ab_y169 : MethodName := ⟨"AbsentPostModel", "againstSeen", "(I)I"⟩
-- 170: AbsentPostModel.isSeen(II)Z
def ab_c170_0 : List (Nat × Instr × Nat) := [(0, .iconst 1, 1), (1, .istore_n 3, 1), (2, .iconst 0, 1), (3, .istore 4, 2), (5, .iload 4, 2), (7, .aload_n 0, 1), (8, .getfield 19, 3), (11, .iload_n 1, 1), (12, .iaload, 1), (13, .if_icmp .ge 52, 3), (16, .iload_n 3, 1), (17, .ifCond .eq 40, 3), (20, .iload_n 2, 1), (21, .aload_n 0, 1), (22, .getfield 16, 3), (25, .bipush 40, 2), (27, .iload_n 1, 1), (28, .imul, 1), (29, .iload 4, 2), (31, .iadd, 1), (32, .iaload, 1), (33, .ishr, 1), (34, .iconst 1, 1), (35, .iand, 1), (36, .aload_n 0, 1), (37, .getfield 16, 3), (40, .bipush 40, 2), (42, .iload_n 1, 1), (43, .imul, 1), (44, .iload 4, 2), (46, .iadd, 1), (47, .iconst 1, 1), (48, .iadd, 1), (49, .iaload, 1), (50, .if_icmp .ne 7, 3), (53, .iconst 1, 1), (54, .goto 4, 3), (57, .iconst 0, 1), (58, .istore_n 3, 1), (59, .iinc 4 2, 3)]
def ab_c170_1 : List (Nat × Instr × Nat) := [(62, .goto (-57), 3), (65, .iload_n 3, 1), (66, .ireturn, 1)]
def ab_c170 : List (Nat × Instr × Nat) := ab_c170_0 ++ ab_c170_1
def ab_y170 : MethodName := ⟨"AbsentPostModel", "isSeen", "(II)Z"⟩
-- 171: AbsentPostModel.outs(III)I
def ab_c171_0 : List (Nat × Instr × Nat) := [(0, .aload_n 0, 1), (1, .iload_n 1, 1), (2, .invokevirtual 132, 3), (5, .ifCond .eq 22, 3), (8, .iload_n 2, 1), (9, .i2l, 1), (10, .lconst 0, 1), (11, .ldc2_w 223, 3), (14, .invokestatic 56, 3), (17, .ifCond .eq 10, 3), (20, .iload_n 3, 1), (21, .invokestatic 62, 3), (24, .ifCond .ne 5, 3), (27, .iconst (-1), 1), (28, .ireturn, 1), (29, .aload_n 0, 1), (30, .iload_n 3, 1), (31, .invokevirtual 217, 3), (34, .istore 4, 2), (36, .iload 4, 2), (38, .ifCond .ge 6, 3), (41, .iload 4, 2), (43, .ireturn, 1), (44, .iconst 0, 1), (45, .istore 5, 2), (47, .iconst 0, 1), (48, .istore 6, 2), (50, .iload 6, 2), (52, .bipush 12, 2), (54, .if_icmp .ge 48, 3), (57, .iload 5, 2), (59, .aload_n 0, 1), (60, .iload_n 3, 1), (61, .aload_n 0, 1), (62, .getfield 7, 3), (65, .iconst 2, 1), (66, .iload_n 1, 1), (67, .iadd, 1), (68, .iaload, 1), (69, .iload 6, 2)]
def ab_c171_1 : List (Nat × Instr × Nat) := [(71, .iload_n 2, 1), (72, .invokestatic 100, 3), (75, .iconst 0, 1), (76, .invokestatic 125, 3), (79, .invokevirtual 220, 3), (82, .ifCond .eq 10, 3), (85, .iconst 1, 1), (86, .iload 6, 2), (88, .ishl, 1), (89, .goto 4, 3), (92, .iconst 0, 1), (93, .ior, 1), (94, .istore 5, 2), (96, .iinc 6 1, 3), (99, .goto (-49), 3), (102, .iload 5, 2), (104, .ireturn, 1)]
def ab_c171 : List (Nat × Instr × Nat) := ab_c171_0 ++ ab_c171_1
def ab_y171 : MethodName := ⟨"AbsentPostModel", "outs", "(III)I"⟩
-- 172: AbsentPostModel.feigned()I
def ab_c172_0 : List (Nat × Instr × Nat) := [(0, .iconst 0, 1), (1, .istore_n 1, 1), (2, .iconst 0, 1), (3, .istore_n 2, 1), (4, .iload_n 2, 1), (5, .aload_n 0, 1), (6, .getfield 7, 3), (9, .iconst 0, 1), (10, .iaload, 1), (11, .if_icmp .ge 35, 3), (14, .iload_n 1, 1), (15, .aload_n 0, 1), (16, .iload_n 2, 1), (17, .invokevirtual 129, 3), (20, .aload_n 0, 1), (21, .iload_n 2, 1), (22, .invokevirtual 122, 3), (25, .iconst (-1), 1), (26, .ixor, 1), (27, .iand, 1), (28, .ifCond .eq 9, 3), (31, .iconst 1, 1), (32, .iload_n 2, 1), (33, .ishl, 1), (34, .goto 4, 3), (37, .iconst 0, 1), (38, .ior, 1), (39, .istore_n 1, 1), (40, .iinc 2 1, 3), (43, .goto (-39), 3), (46, .iload_n 1, 1), (47, .ireturn, 1)]
def ab_c172 : List (Nat × Instr × Nat) := ab_c172_0
def ab_y172 : MethodName := ⟨"AbsentPostModel", "feigned", "()I"⟩
-- 173: AbsentPostModel.sack(II)I
def ab_c173_0 : List (Nat × Instr × Nat) := [(0, .iload_n 1, 1), (1, .invokestatic 62, 3), (4, .ifCond .eq 15, 3), (7, .iload_n 2, 1), (8, .i2l, 1), (9, .lconst 0, 1), (10, .ldc2_w 225, 3), (13, .invokestatic 56, 3), (16, .ifCond .ne 5, 3), (19, .iconst (-1), 1), (20, .ireturn, 1), (21, .aload_n 0, 1), (22, .iload_n 1, 1), (23, .invokevirtual 180, 3), (26, .istore_n 3, 1), (27, .iload_n 3, 1), (28, .ifCond .ge 5, 3), (31, .iload_n 3, 1), (32, .ireturn, 1), (33, .aload_n 0, 1), (34, .invokevirtual 183, 3), (37, .iconst 0, 1), (38, .istore 4, 2), (40, .iload 4, 2), (42, .iload_n 2, 1), (43, .if_icmp .ge 104, 3), (46, .aload_n 0, 1), (47, .iload_n 1, 1), (48, .invokevirtual 186, 3), (51, .iconst 0, 1), (52, .istore 5, 2), (54, .iload 5, 2), (56, .aload_n 0, 1), (57, .getfield 7, 3), (60, .iconst 0, 1), (61, .iaload, 1), (62, .if_icmp .ge 79, 3), (65, .aload_n 0, 1), (66, .getfield 41, 3), (69, .iload 5, 2)]
def ab_c173_1 : List (Nat × Instr × Nat) := [(71, .dup2, 1), (72, .iaload, 1), (73, .aload_n 0, 1), (74, .getfield 7, 3), (77, .iconst 2, 1), (78, .iload 5, 2), (80, .iadd, 1), (81, .iaload, 1), (82, .iconst 4, 1), (83, .if_icmp .eq 19, 3), (86, .aload_n 0, 1), (87, .getfield 41, 3), (90, .iload 5, 2), (92, .iaload, 1), (93, .bipush 99, 2), (95, .if_icmp .ge 7, 3), (98, .iconst 1, 1), (99, .goto 4, 3), (102, .iconst 0, 1), (103, .iadd, 1), (104, .iastore, 1), (105, .aload_n 0, 1), (106, .getfield 38, 3), (109, .iload 5, 2), (111, .aload_n 0, 1), (112, .getfield 7, 3), (115, .iconst 2, 1), (116, .iload 5, 2), (118, .iadd, 1), (119, .iaload, 1), (120, .aload_n 0, 1), (121, .getfield 7, 3), (124, .bipush 8, 2), (126, .iload 5, 2), (128, .iadd, 1), (129, .iaload, 1), (130, .iconst 0, 1), (131, .invokestatic 125, 3), (134, .iastore, 1), (135, .iinc 5 1, 3)]
def ab_c173_2 : List (Nat × Instr × Nat) := [(138, .goto (-84), 3), (141, .iinc 4 1, 3), (144, .goto (-104), 3), (147, .iconst 0, 1), (148, .istore 4, 2), (150, .iconst 0, 1), (151, .istore 5, 2), (153, .iload 5, 2), (155, .aload_n 0, 1), (156, .getfield 7, 3), (159, .iconst 0, 1), (160, .iaload, 1), (161, .if_icmp .ge 21, 3), (164, .iload 4, 2), (166, .aload_n 0, 1), (167, .getfield 41, 3), (170, .iload 5, 2), (172, .iaload, 1), (173, .iadd, 1), (174, .istore 4, 2), (176, .iinc 5 1, 3), (179, .goto (-26), 3), (182, .iload 4, 2), (184, .ireturn, 1)]
def ab_c173 : List (Nat × Instr × Nat) := ab_c173_0 ++ ab_c173_1 ++ ab_c173_2
def ab_y173 : MethodName := ⟨"AbsentPostModel", "sack", "(II)I"⟩
-- 174: AbsentPostModel.race(I)I
def ab_c174_0 : List (Nat × Instr × Nat) := [(0, .iload_n 1, 1), (1, .i2l, 1), (2, .lconst 0, 1), (3, .ldc2_w 192, 3), (6, .invokestatic 56, 3), (9, .ifCond .ne 5, 3), (12, .iconst (-1), 1), (13, .ireturn, 1), (14, .aload_n 0, 1), (15, .getfield 7, 3), (18, .iconst 0, 1), (19, .iaload, 1), (20, .ifCond .ne 6, 3), (23, .bipush (-4), 2), (25, .ireturn, 1), (26, .aload_n 0, 1), (27, .invokevirtual 183, 3), (30, .iload_n 1, 1), (31, .iconst 1, 1), (32, .if_icmp .ne 14, 3), (35, .aload_n 0, 1), (36, .iconst 0, 1), (37, .iconst 0, 1), (38, .iconst 0, 1), (39, .iconst 0, 1), (40, .invokevirtual 231, 3), (43, .goto 4, 3), (46, .iconst 0, 1), (47, .istore_n 2, 1), (48, .iconst 0, 1), (49, .istore_n 3, 1), (50, .iload_n 3, 1), (51, .aload_n 0, 1), (52, .getfield 7, 3), (55, .iconst 0, 1), (56, .iaload, 1), (57, .if_icmp .ge 108, 3), (60, .iload_n 1, 1), (61, .iconst 2, 1), (62, .if_icmp .ne 103, 3)]
def ab_c174_1 : List (Nat × Instr × Nat) := [(65, .aload_n 0, 1), (66, .iconst 0, 1), (67, .iconst 0, 1), (68, .iload_n 3, 1), (69, .iconst 0, 1), (70, .iconst 0, 1), (71, .invokevirtual 227, 3), (74, .istore 4, 2), (76, .bipush 100, 2), (78, .istore 5, 2), (80, .iconst 0, 1), (81, .istore 6, 2), (83, .iload 6, 2), (85, .aload_n 0, 1), (86, .getfield 7, 3), (89, .iconst 0, 1), (90, .iaload, 1), (91, .if_icmp .ge 49, 3), (94, .aload_n 0, 1), (95, .iload_n 3, 1), (96, .iload_n 3, 1), (97, .iconst 1, 1), (98, .iload 6, 2), (100, .ishl, 1), (101, .iload 4, 2), (103, .ifCond .le 9, 3), (106, .iconst 1, 1), (107, .iload_n 3, 1), (108, .ishl, 1), (109, .goto 4, 3), (112, .iconst 0, 1), (113, .invokevirtual 231, 3), (116, .istore 7, 2), (118, .iload 7, 2), (120, .iload 5, 2), (122, .if_icmp .ge 8, 3), (125, .iload 7, 2), (127, .goto 5, 3), (130, .iload 5, 2), (132, .istore 5, 2)]
def ab_c174_2 : List (Nat × Instr × Nat) := [(134, .iinc 6 1, 3), (137, .goto (-54), 3), (140, .iload 4, 2), (142, .iload 5, 2), (144, .iadd, 1), (145, .iload_n 2, 1), (146, .if_icmp .le 11, 3), (149, .iload 4, 2), (151, .iload 5, 2), (153, .iadd, 1), (154, .goto 4, 3), (157, .iload_n 2, 1), (158, .istore_n 2, 1), (159, .iinc 3 1, 3), (162, .goto (-112), 3), (165, .iload_n 2, 1), (166, .ireturn, 1)]
def ab_c174 : List (Nat × Instr × Nat) := ab_c174_0 ++ ab_c174_1 ++ ab_c174_2
def ab_y174 : MethodName := ⟨"AbsentPostModel", "race", "(I)I"⟩
-- 175: AbsentPostModel.lastMove(IIII)I
def ab_c175_0 : List (Nat × Instr × Nat) := [(0, .iconst 0, 1), (1, .istore 5, 2), (3, .iconst 0, 1), (4, .istore 6, 2), (6, .iload 6, 2), (8, .aload_n 0, 1), (9, .getfield 7, 3), (12, .iconst 0, 1), (13, .iaload, 1), (14, .if_icmp .ge 38, 3), (17, .aload_n 0, 1), (18, .iload_n 1, 1), (19, .iload_n 2, 1), (20, .iload 6, 2), (22, .iload_n 3, 1), (23, .iload 4, 2), (25, .invokevirtual 227, 3), (28, .istore 7, 2), (30, .iload 7, 2), (32, .iload 5, 2), (34, .if_icmp .le 8, 3), (37, .iload 7, 2), (39, .goto 5, 3), (42, .iload 5, 2), (44, .istore 5, 2), (46, .iinc 6 1, 3), (49, .goto (-43), 3), (52, .iload 5, 2), (54, .ireturn, 1)]
def ab_c175 : List (Nat × Instr × Nat) := ab_c175_0
def ab_y175 : MethodName := ⟨"AbsentPostModel", "lastMove", "(IIII)I"⟩
-- 176: AbsentPostModel.wins(IIIII)I
def ab_c176_0 : List (Nat × Instr × Nat) := [(0, .iload_n 2, 1), (1, .iload_n 1, 1), (2, .iload_n 3, 1), (3, .invokestatic 174, 3), (6, .iadd, 1), (7, .istore 6, 2), (9, .iload 6, 2), (11, .bipush 12, 2), (13, .if_icmp .ge 39, 3), (16, .aload_n 0, 1), (17, .getfield 38, 3), (20, .iload_n 3, 1), (21, .iaload, 1), (22, .iload 6, 2), (24, .invokestatic 146, 3), (27, .ifCond .eq 25, 3), (30, .iload 4, 2), (32, .iload_n 3, 1), (33, .invokestatic 146, 3), (36, .ifCond .ne 16, 3), (39, .iload 5, 2), (41, .iload_n 3, 1), (42, .invokestatic 146, 3), (45, .ifCond .ne 7, 3), (48, .iconst 1, 1), (49, .goto 4, 3), (52, .iconst 0, 1), (53, .istore 7, 2), (55, .iload 7, 2), (57, .ifCond .eq 15, 3), (60, .aload_n 0, 1), (61, .getfield 7, 3), (64, .bipush 20, 2), (66, .iload_n 3, 1), (67, .iadd, 1), (68, .iaload, 1), (69, .goto 4, 3), (72, .iconst 0, 1), (73, .ireturn, 1)]
def ab_c176 : List (Nat × Instr × Nat) := ab_c176_0
def ab_y176 : MethodName := ⟨"AbsentPostModel", "wins", "(IIIII)I"⟩
-- 177: AbsentPostModel.mid(II)I
def ab_c177_0 : List (Nat × Instr × Nat) := [(0, .iload_n 1, 1), (1, .invokestatic 62, 3), (4, .ifCond .eq 15, 3), (7, .iload_n 2, 1), (8, .i2l, 1), (9, .lconst 0, 1), (10, .ldc2_w 238, 3), (13, .invokestatic 56, 3), (16, .ifCond .ne 5, 3), (19, .iconst (-1), 1), (20, .ireturn, 1), (21, .aload_n 0, 1), (22, .iload_n 1, 1), (23, .invokevirtual 180, 3), (26, .istore_n 3, 1), (27, .iload_n 3, 1), (28, .ifCond .ge 5, 3), (31, .iload_n 3, 1), (32, .ireturn, 1), (33, .aload_n 0, 1), (34, .invokevirtual 183, 3), (37, .aload_n 0, 1), (38, .iload_n 1, 1), (39, .invokevirtual 186, 3), (42, .aload_n 0, 1), (43, .aload_n 0, 1), (44, .getfield 165, 3), (47, .i2l, 1), (48, .bipush 12, 2), (50, .iload_n 2, 1), (51, .isub, 1), (52, .i2l, 1), (53, .lmul, 1), (54, .ldc2_w 238, 3), (57, .invokevirtual 240, 3), (60, .ireturn, 1)]
def ab_c177 : List (Nat × Instr × Nat) := ab_c177_0
def ab_y177 : MethodName := ⟨"AbsentPostModel", "mid", "(II)I"⟩
-- 178: AbsentPostModel.chance(JJ)I
def ab_c178_0 : List (Nat × Instr × Nat) := [(0, .lload_n 1, 1), (1, .lstore 5, 2), (3, .lload_n 3, 1), (4, .lstore 7, 2), (6, .lload 7, 2), (8, .lconst 0, 1), (9, .lcmp, 1), (10, .ifCond .eq 21, 3), (13, .lload 5, 2), (15, .lload 7, 2), (17, .lrem, 1), (18, .lstore 9, 2), (20, .lload 7, 2), (22, .lstore 5, 2), (24, .lload 9, 2), (26, .lstore 7, 2), (28, .goto (-22), 3), (31, .aload_n 0, 1), (32, .lload_n 1, 1), (33, .lload 5, 2), (35, .ldiv, 1), (36, .putfield 235, 3), (39, .aload_n 0, 1), (40, .lload_n 3, 1), (41, .lload 5, 2), (43, .ldiv, 1), (44, .putfield 34, 3), (47, .iconst 1, 1), (48, .ireturn, 1)]
def ab_c178 : List (Nat × Instr × Nat) := ab_c178_0
def ab_y178 : MethodName := ⟨"AbsentPostModel", "chance", "(JJ)I"⟩
-- 179: AbsentPostModel.odds(II)I
def ab_c179_0 : List (Nat × Instr × Nat) := [(0, .iload_n 1, 1), (1, .invokestatic 62, 3), (4, .ifCond .eq 15, 3), (7, .iload_n 2, 1), (8, .i2l, 1), (9, .lconst 0, 1), (10, .ldc2_w 238, 3), (13, .invokestatic 56, 3), (16, .ifCond .ne 5, 3), (19, .iconst (-1), 1), (20, .ireturn, 1), (21, .aload_n 0, 1), (22, .iload_n 1, 1), (23, .invokevirtual 180, 3), (26, .istore_n 3, 1), (27, .iload_n 3, 1), (28, .ifCond .ge 5, 3), (31, .iload_n 3, 1), (32, .ireturn, 1), (33, .aload_n 0, 1), (34, .invokevirtual 183, 3), (37, .aload_n 0, 1), (38, .iload_n 1, 1), (39, .invokevirtual 186, 3), (42, .lconst 1, 1), (43, .lstore 4, 2), (45, .lconst 1, 1), (46, .lstore 6, 2), (48, .iconst 0, 1), (49, .istore 8, 2), (51, .iload 8, 2), (53, .aload_n 0, 1), (54, .getfield 168, 3), (57, .invokestatic 143, 3), (60, .if_icmp .ge 27, 3), (63, .lload 4, 2), (65, .bipush 12, 2), (67, .iload_n 2, 1), (68, .isub, 1), (69, .i2l, 1)]
def ab_c179_1 : List (Nat × Instr × Nat) := [(70, .lmul, 1), (71, .lstore 4, 2), (73, .lload 6, 2), (75, .ldc2_w 238, 3), (78, .lmul, 1), (79, .lstore 6, 2), (81, .iinc 8 1, 3), (84, .goto (-33), 3), (87, .aload_n 0, 1), (88, .lload 4, 2), (90, .lload 6, 2), (92, .invokevirtual 240, 3), (95, .ireturn, 1)]
def ab_c179 : List (Nat × Instr × Nat) := ab_c179_0 ++ ab_c179_1
def ab_y179 : MethodName := ⟨"AbsentPostModel", "odds", "(II)I"⟩
-- 180: AbsentPostModel.lots(II)I
def ab_c180_0 : List (Nat × Instr × Nat) := [(0, .iload_n 1, 1), (1, .i2l, 1), (2, .lconst 1, 1), (3, .ldc2_w 244, 3), (6, .invokestatic 56, 3), (9, .ifCond .eq 15, 3), (12, .iload_n 2, 1), (13, .i2l, 1), (14, .lconst 1, 1), (15, .ldc2_w 246, 3), (18, .invokestatic 56, 3), (21, .ifCond .ne 5, 3), (24, .iconst (-1), 1), (25, .ireturn, 1), (26, .aload_n 0, 1), (27, .getfield 7, 3), (30, .iconst 0, 1), (31, .iaload, 1), (32, .ifCond .ne 6, 3), (35, .bipush (-4), 2), (37, .ireturn, 1), (38, .aload_n 0, 1), (39, .getfield 117, 3), (42, .iload_n 1, 1), (43, .iadd, 1), (44, .bipush 40, 2), (46, .if_icmp .le 6, 3), (49, .bipush (-2), 2), (51, .ireturn, 1), (52, .iload_n 2, 1), (53, .i2l, 1), (54, .lstore_n 3, 1), (55, .iconst 0, 1), (56, .istore 5, 2), (58, .iconst 0, 1), (59, .istore 6, 2), (61, .iload 6, 2), (63, .iload_n 1, 1), (64, .if_icmp .ge 71, 3), (67, .lload_n 3, 1)]
def ab_c180_1 : List (Nat × Instr × Nat) := [(68, .ldc2_w 248, 3), (71, .lmul, 1), (72, .ldc2_w 250, 3), (75, .lrem, 1), (76, .lstore_n 3, 1), (77, .aload_n 0, 1), (78, .invokevirtual 153, 3), (81, .aload_n 0, 1), (82, .invokevirtual 183, 3), (85, .lload_n 3, 1), (86, .aload_n 0, 1), (87, .getfield 7, 3), (90, .iconst 0, 1), (91, .iaload, 1), (92, .i2l, 1), (93, .lrem, 1), (94, .l2i, 1), (95, .istore 7, 2), (97, .iload 7, 2), (99, .aload_n 0, 1), (100, .getfield 7, 3), (103, .iconst 0, 1), (104, .iaload, 1), (105, .if_icmp .ge 20, 3), (108, .iload 5, 2), (110, .aload_n 0, 1), (111, .iload 7, 2), (113, .invokevirtual 177, 3), (116, .iadd, 1), (117, .istore 5, 2), (119, .iinc 7 1, 3), (122, .goto (-25), 3), (125, .aload_n 0, 1), (126, .invokevirtual 189, 3), (129, .iinc 6 1, 3), (132, .goto (-71), 3), (135, .iload 5, 2), (137, .ireturn, 1)]
def ab_c180 : List (Nat × Instr × Nat) := ab_c180_0 ++ ab_c180_1
def ab_y180 : MethodName := ⟨"AbsentPostModel", "lots", "(II)I"⟩
-- 181: AbsentPostModel.asked()I
def ab_c181_0 : List (Nat × Instr × Nat) := [(0, .aload_n 0, 1), (1, .getfield 51, 3), (4, .ireturn, 1)]
def ab_c181 : List (Nat × Instr × Nat) := ab_c181_0
def ab_y181 : MethodName := ⟨"AbsentPostModel", "asked", "()I"⟩
-- 182: AbsentPostModel.upper()J
def ab_c182_0 : List (Nat × Instr × Nat) := [(0, .aload_n 0, 1), (1, .getfield 235, 3), (4, .lreturn, 1)]
def ab_c182 : List (Nat × Instr × Nat) := ab_c182_0
def ab_y182 : MethodName := ⟨"AbsentPostModel", "upper", "()J"⟩
-- 183: AbsentPostModel.lower()J
def ab_c183_0 : List (Nat × Instr × Nat) := [(0, .aload_n 0, 1), (1, .getfield 34, 3), (4, .lreturn, 1)]
def ab_c183 : List (Nat × Instr × Nat) := ab_c183_0
def ab_y183 : MethodName := ⟨"AbsentPostModel", "lower", "()J"⟩
-- 184: AbsentPostModel.count(I)I
def ab_c184_0 : List (Nat × Instr × Nat) := [(0, .iload_n 1, 1), (1, .tableswitch 130 0 9 #[55, 62, 69, 74, 81, 88, 95, 102, 112, 121], 55), (56, .aload_n 0, 1), (57, .getfield 7, 3), (60, .iconst 0, 1), (61, .iaload, 1), (62, .ireturn, 1), (63, .aload_n 0, 1), (64, .getfield 7, 3), (67, .iconst 1, 1), (68, .iaload, 1), (69, .ireturn, 1), (70, .aload_n 0, 1), (71, .getfield 117, 3), (74, .ireturn, 1), (75, .aload_n 0, 1), (76, .bipush 20, 2), (78, .invokevirtual 252, 3), (81, .ireturn, 1), (82, .aload_n 0, 1), (83, .bipush 26, 2), (85, .invokevirtual 252, 3), (88, .ireturn, 1), (89, .aload_n 0, 1), (90, .iconst 1, 1), (91, .iconst 4, 1), (92, .invokevirtual 255, 3), (95, .ireturn, 1), (96, .aload_n 0, 1), (97, .iconst 3, 1), (98, .iconst 5, 1), (99, .invokevirtual 255, 3), (102, .ireturn, 1), (103, .aload_n 0, 1), (104, .getfield 19, 3), (107, .bipush 6, 2), (109, .invokestatic 258, 3), (112, .ireturn, 1), (113, .aload_n 0, 1), (114, .getfield 25, 3)]
def ab_c184_1 : List (Nat × Instr × Nat) := [(117, .iconst 4, 1), (118, .invokestatic 258, 3), (121, .ireturn, 1), (122, .aload_n 0, 1), (123, .getfield 13, 3), (126, .iconst 3, 1), (127, .invokestatic 258, 3), (130, .ireturn, 1), (131, .iconst (-1), 1), (132, .ireturn, 1)]
def ab_c184 : List (Nat × Instr × Nat) := ab_c184_0 ++ ab_c184_1
def ab_y184 : MethodName := ⟨"AbsentPostModel", "count", "(I)I"⟩
-- 185: AbsentPostModel.sumOf(I)I
def ab_c185_0 : List (Nat × Instr × Nat) := [(0, .iconst 0, 1), (1, .istore_n 2, 1), (2, .iconst 0, 1), (3, .istore_n 3, 1), (4, .iload_n 3, 1), (5, .aload_n 0, 1), (6, .getfield 7, 3), (9, .iconst 0, 1), (10, .iaload, 1), (11, .if_icmp .ge 20, 3), (14, .iload_n 2, 1), (15, .aload_n 0, 1), (16, .getfield 7, 3), (19, .iload_n 1, 1), (20, .iload_n 3, 1), (21, .iadd, 1), (22, .iaload, 1), (23, .iadd, 1), (24, .istore_n 2, 1), (25, .iinc 3 1, 3), (28, .goto (-24), 3), (31, .iload_n 2, 1), (32, .ireturn, 1)]
def ab_c185 : List (Nat × Instr × Nat) := ab_c185_0
def ab_y185 : MethodName := ⟨"AbsentPostModel", "sumOf", "(I)I"⟩
-- 186: AbsentPostModel.ofKind(II)I
def ab_c186_0 : List (Nat × Instr × Nat) := [(0, .iconst 0, 1), (1, .istore_n 3, 1), (2, .iconst 0, 1), (3, .istore 4, 2), (5, .iload 4, 2), (7, .aload_n 0, 1), (8, .getfield 7, 3), (11, .iconst 0, 1), (12, .iaload, 1), (13, .if_icmp .ge 43, 3), (16, .iload_n 3, 1), (17, .aload_n 0, 1), (18, .getfield 7, 3), (21, .iconst 2, 1), (22, .iload 4, 2), (24, .iadd, 1), (25, .iaload, 1), (26, .iload_n 1, 1), (27, .if_icmp .eq 16, 3), (30, .aload_n 0, 1), (31, .getfield 7, 3), (34, .iconst 2, 1), (35, .iload 4, 2), (37, .iadd, 1), (38, .iaload, 1), (39, .iload_n 2, 1), (40, .if_icmp .ne 7, 3), (43, .iconst 1, 1), (44, .goto 4, 3), (47, .iconst 0, 1), (48, .iadd, 1), (49, .istore_n 3, 1), (50, .iinc 4 1, 3), (53, .goto (-48), 3), (56, .iload_n 3, 1), (57, .ireturn, 1)]
def ab_c186 : List (Nat × Instr × Nat) := ab_c186_0
def ab_y186 : MethodName := ⟨"AbsentPostModel", "ofKind", "(II)I"⟩
-- 187: AbsentPostModel.thereOf([II)I
def ab_c187_0 : List (Nat × Instr × Nat) := [(0, .iconst 0, 1), (1, .istore_n 2, 1), (2, .iconst 0, 1), (3, .istore_n 3, 1), (4, .iload_n 3, 1), (5, .iload_n 1, 1), (6, .if_icmp .ge 23, 3), (9, .iload_n 2, 1), (10, .aload_n 0, 1), (11, .iload_n 3, 1), (12, .iaload, 1), (13, .ifCond .ge 7, 3), (16, .iconst 0, 1), (17, .goto 4, 3), (20, .iconst 1, 1), (21, .iadd, 1), (22, .istore_n 2, 1), (23, .iinc 3 1, 3), (26, .goto (-22), 3), (29, .iload_n 2, 1), (30, .ireturn, 1)]
def ab_c187 : List (Nat × Instr × Nat) := ab_c187_0
def ab_y187 : MethodName := ⟨"AbsentPostModel", "thereOf", "([II)I"⟩
-- 188: AbsentPostModel.finding()I
def ab_c188_0 : List (Nat × Instr × Nat) := [(0, .aload_n 0, 1), (1, .getfield 47, 3), (4, .ireturn, 1)]
def ab_c188 : List (Nat × Instr × Nat) := ab_c188_0
def ab_y188 : MethodName := ⟨"AbsentPostModel", "finding", "()I"⟩
-- 189: AbsentPostModel.findings(I)I
def ab_c189_0 : List (Nat × Instr × Nat) := [(0, .iload_n 1, 1), (1, .i2l, 1), (2, .lconst 1, 1), (3, .ldc2_w 54, 3), (6, .invokestatic 56, 3), (9, .ifCond .eq 12, 3), (12, .aload_n 0, 1), (13, .getfield 31, 3), (16, .iload_n 1, 1), (17, .iaload, 1), (18, .goto 4, 3), (21, .iconst (-1), 1), (22, .ireturn, 1)]
def ab_c189 : List (Nat × Instr × Nat) := ab_c189_0
def ab_y189 : MethodName := ⟨"AbsentPostModel", "findings", "(I)I"⟩
-- 190: AbsentPostModel.digest()J
def ab_c190_0 : List (Nat × Instr × Nat) := [(0, .aload_n 0, 1), (1, .ldc2_w 267, 3), (4, .putfield 264, 3), (7, .iconst 0, 1), (8, .istore_n 1, 1), (9, .iload_n 1, 1), (10, .bipush 10, 2), (12, .if_icmp .ge 19, 3), (15, .aload_n 0, 1), (16, .aload_n 0, 1), (17, .iload_n 1, 1), (18, .invokevirtual 269, 3), (21, .i2l, 1), (22, .invokevirtual 272, 3), (25, .iinc 1 1, 3), (28, .goto (-19), 3), (31, .iconst 0, 1), (32, .istore_n 1, 1), (33, .iload_n 1, 1), (34, .aload_n 0, 1), (35, .getfield 7, 3), (38, .iconst 0, 1), (39, .iaload, 1), (40, .if_icmp .ge 33, 3), (43, .iconst 0, 1), (44, .istore_n 2, 1), (45, .iload_n 2, 1), (46, .iconst 5, 1), (47, .if_icmp .ge 20, 3), (50, .aload_n 0, 1), (51, .aload_n 0, 1), (52, .iload_n 1, 1), (53, .iload_n 2, 1), (54, .invokevirtual 137, 3), (57, .i2l, 1), (58, .invokevirtual 272, 3), (61, .iinc 2 1, 3), (64, .goto (-19), 3), (67, .iinc 1 1, 3), (70, .goto (-37), 3)]
def ab_c190_1 : List (Nat × Instr × Nat) := [(73, .iconst 0, 1), (74, .istore_n 1, 1), (75, .iload_n 1, 1), (76, .iconst 3, 1), (77, .if_icmp .ge 20, 3), (80, .aload_n 0, 1), (81, .aload_n 0, 1), (82, .getfield 13, 3), (85, .iload_n 1, 1), (86, .iaload, 1), (87, .i2l, 1), (88, .invokevirtual 272, 3), (91, .iinc 1 1, 3), (94, .goto (-19), 3), (97, .iconst 0, 1), (98, .istore_n 1, 1), (99, .iload_n 1, 1), (100, .bipush 6, 2), (102, .if_icmp .ge 54, 3), (105, .aload_n 0, 1), (106, .aload_n 0, 1), (107, .getfield 19, 3), (110, .iload_n 1, 1), (111, .iaload, 1), (112, .i2l, 1), (113, .invokevirtual 272, 3), (116, .iconst 0, 1), (117, .istore_n 2, 1), (118, .iload_n 2, 1), (119, .aload_n 0, 1), (120, .getfield 19, 3), (123, .iload_n 1, 1), (124, .iaload, 1), (125, .if_icmp .ge 25, 3), (128, .aload_n 0, 1), (129, .aload_n 0, 1), (130, .getfield 16, 3), (133, .bipush 40, 2), (135, .iload_n 1, 1), (136, .imul, 1)]
def ab_c190_2 : List (Nat × Instr × Nat) := [(137, .iload_n 2, 1), (138, .iadd, 1), (139, .iaload, 1), (140, .i2l, 1), (141, .invokevirtual 272, 3), (144, .iinc 2 1, 3), (147, .goto (-29), 3), (150, .iinc 1 1, 3), (153, .goto (-54), 3), (156, .iconst 0, 1), (157, .istore_n 1, 1), (158, .iload_n 1, 1), (159, .iconst 4, 1), (160, .if_icmp .ge 54, 3), (163, .aload_n 0, 1), (164, .aload_n 0, 1), (165, .getfield 25, 3), (168, .iload_n 1, 1), (169, .iaload, 1), (170, .i2l, 1), (171, .invokevirtual 272, 3), (174, .iconst 0, 1), (175, .istore_n 2, 1), (176, .iload_n 2, 1), (177, .aload_n 0, 1), (178, .getfield 25, 3), (181, .iload_n 1, 1), (182, .iaload, 1), (183, .if_icmp .ge 25, 3), (186, .aload_n 0, 1), (187, .aload_n 0, 1), (188, .getfield 22, 3), (191, .bipush 60, 2), (193, .iload_n 1, 1), (194, .imul, 1), (195, .iload_n 2, 1), (196, .iadd, 1), (197, .iaload, 1), (198, .i2l, 1), (199, .invokevirtual 272, 3)]
def ab_c190_3 : List (Nat × Instr × Nat) := [(202, .iinc 2 1, 3), (205, .goto (-29), 3), (208, .iinc 1 1, 3), (211, .goto (-53), 3), (214, .aload_n 0, 1), (215, .getfield 264, 3), (218, .lreturn, 1)]
def ab_c190 : List (Nat × Instr × Nat) := ab_c190_0 ++ ab_c190_1 ++ ab_c190_2 ++ ab_c190_3
def ab_y190 : MethodName := ⟨"AbsentPostModel", "digest", "()J"⟩
-- 191: AbsentPostModel.mix(J)V
def ab_c191_0 : List (Nat × Instr × Nat) := [(0, .aload_n 0, 1), (1, .ldc2_w 262, 3), (4, .aload_n 0, 1), (5, .getfield 264, 3), (8, .lmul, 1), (9, .lload_n 1, 1), (10, .ladd, 1), (11, .putfield 264, 3), (14, .return_, 1)]
def ab_c191 : List (Nat × Instr × Nat) := ab_c191_0
def ab_y191 : MethodName := ⟨"AbsentPostModel", "mix", "(J)V"⟩
-- 192: AbsentPostLaw.law([I)Z
def ab_c192_0 : List (Nat × Instr × Nat) := [(16, .iconst 0, 1), (17, .istore_n 3, 1), (18, .iload_n 3, 1), (19, .aload_n 0, 1), (20, .arraylength, 1), (21, .bipush 6, 2), (23, .isub, 1), (24, .if_icmp .gt 1270, 3), (27, .aload_n 0, 1), (28, .iload_n 3, 1), (29, .iaload, 1), (30, .bipush 63, 2), (32, .iand, 1), (33, .tableswitch 1255 0 40 #[179, 212, 255, 288, 311, 374, 397, 430, 473, 496, 519, 552, 585, 618, 641, 664, 687, 710, 733, 766, 789, 822, 835, 858, 871, 884, 897, 930, 973, 986, 1019, 1042, 1075, 1108, 1141, 1154, 1168, 1182, 1205, 1218, 1241], 179), (212, .aload_n 1, 1), (213, .aload_n 0, 1), (214, .iload_n 3, 1), (215, .iconst 1, 1), (216, .iadd, 1), (217, .iaload, 1), (218, .aload_n 0, 1), (219, .iload_n 3, 1), (220, .iconst 2, 1), (221, .iadd, 1), (222, .iaload, 1), (223, .invokevirtual 13, 3), (226, .aload_n 2, 1), (227, .aload_n 0, 1), (228, .iload_n 3, 1), (229, .iconst 1, 1), (230, .iadd, 1), (231, .iaload, 1), (232, .aload_n 0, 1), (233, .iload_n 3, 1), (234, .iconst 2, 1), (235, .iadd, 1), (236, .iaload, 1), (237, .invokevirtual 17, 3), (240, .if_icmp .eq 1048, 3), (243, .iconst 0, 1)]
def ab_c192_1 : List (Nat × Instr × Nat) := [(244, .ireturn, 1), (245, .aload_n 1, 1), (246, .aload_n 0, 1), (247, .iload_n 3, 1), (248, .iconst 1, 1), (249, .iadd, 1), (250, .iaload, 1), (251, .aload_n 0, 1), (252, .iload_n 3, 1), (253, .iconst 2, 1), (254, .iadd, 1), (255, .iaload, 1), (256, .aload_n 0, 1), (257, .iload_n 3, 1), (258, .iconst 3, 1), (259, .iadd, 1), (260, .iaload, 1), (261, .invokevirtual 18, 3), (264, .aload_n 2, 1), (265, .aload_n 0, 1), (266, .iload_n 3, 1), (267, .iconst 1, 1), (268, .iadd, 1), (269, .iaload, 1), (270, .aload_n 0, 1), (271, .iload_n 3, 1), (272, .iconst 2, 1), (273, .iadd, 1), (274, .iaload, 1), (275, .aload_n 0, 1), (276, .iload_n 3, 1), (277, .iconst 3, 1), (278, .iadd, 1), (279, .iaload, 1), (280, .invokevirtual 22, 3), (283, .if_icmp .eq 1005, 3), (286, .iconst 0, 1), (287, .ireturn, 1), (288, .aload_n 1, 1), (289, .aload_n 0, 1)]
def ab_c192_2 : List (Nat × Instr × Nat) := [(290, .iload_n 3, 1), (291, .iconst 1, 1), (292, .iadd, 1), (293, .iaload, 1), (294, .aload_n 0, 1), (295, .iload_n 3, 1), (296, .iconst 2, 1), (297, .iadd, 1), (298, .iaload, 1), (299, .invokevirtual 23, 3), (302, .aload_n 2, 1), (303, .aload_n 0, 1), (304, .iload_n 3, 1), (305, .iconst 1, 1), (306, .iadd, 1), (307, .iaload, 1), (308, .aload_n 0, 1), (309, .iload_n 3, 1), (310, .iconst 2, 1), (311, .iadd, 1), (312, .iaload, 1), (313, .invokevirtual 26, 3), (316, .if_icmp .eq 972, 3), (319, .iconst 0, 1), (320, .ireturn, 1), (321, .aload_n 1, 1), (322, .aload_n 0, 1), (323, .iload_n 3, 1), (324, .iconst 1, 1), (325, .iadd, 1), (326, .iaload, 1), (327, .invokevirtual 27, 3), (330, .aload_n 2, 1), (331, .aload_n 0, 1), (332, .iload_n 3, 1), (333, .iconst 1, 1), (334, .iadd, 1), (335, .iaload, 1), (336, .invokevirtual 31, 3), (339, .if_icmp .eq 949, 3)]
def ab_c192_3 : List (Nat × Instr × Nat) := [(342, .iconst 0, 1), (343, .ireturn, 1), (344, .aload_n 1, 1), (345, .aload_n 0, 1), (346, .iload_n 3, 1), (347, .iconst 1, 1), (348, .iadd, 1), (349, .iaload, 1), (350, .aload_n 0, 1), (351, .iload_n 3, 1), (352, .iconst 2, 1), (353, .iadd, 1), (354, .iaload, 1), (355, .aload_n 0, 1), (356, .iload_n 3, 1), (357, .iconst 3, 1), (358, .iadd, 1), (359, .iaload, 1), (360, .aload_n 0, 1), (361, .iload_n 3, 1), (362, .iconst 4, 1), (363, .iadd, 1), (364, .iaload, 1), (365, .aload_n 0, 1), (366, .iload_n 3, 1), (367, .iconst 5, 1), (368, .iadd, 1), (369, .iaload, 1), (370, .invokevirtual 32, 3), (373, .aload_n 2, 1), (374, .aload_n 0, 1), (375, .iload_n 3, 1), (376, .iconst 1, 1), (377, .iadd, 1), (378, .iaload, 1), (379, .aload_n 0, 1), (380, .iload_n 3, 1), (381, .iconst 2, 1), (382, .iadd, 1), (383, .iaload, 1)]
def ab_c192_4 : List (Nat × Instr × Nat) := [(384, .aload_n 0, 1), (385, .iload_n 3, 1), (386, .iconst 3, 1), (387, .iadd, 1), (388, .iaload, 1), (389, .aload_n 0, 1), (390, .iload_n 3, 1), (391, .iconst 4, 1), (392, .iadd, 1), (393, .iaload, 1), (394, .aload_n 0, 1), (395, .iload_n 3, 1), (396, .iconst 5, 1), (397, .iadd, 1), (398, .iaload, 1), (399, .invokevirtual 36, 3), (402, .if_icmp .eq 886, 3), (405, .iconst 0, 1), (406, .ireturn, 1), (407, .aload_n 1, 1), (408, .aload_n 0, 1), (409, .iload_n 3, 1), (410, .iconst 1, 1), (411, .iadd, 1), (412, .iaload, 1), (413, .invokevirtual 37, 3), (416, .aload_n 2, 1), (417, .aload_n 0, 1), (418, .iload_n 3, 1), (419, .iconst 1, 1), (420, .iadd, 1), (421, .iaload, 1), (422, .invokevirtual 40, 3), (425, .if_icmp .eq 863, 3), (428, .iconst 0, 1), (429, .ireturn, 1), (430, .aload_n 1, 1), (431, .aload_n 0, 1), (432, .iload_n 3, 1), (433, .iconst 1, 1)]
def ab_c192_5 : List (Nat × Instr × Nat) := [(434, .iadd, 1), (435, .iaload, 1), (436, .aload_n 0, 1), (437, .iload_n 3, 1), (438, .iconst 2, 1), (439, .iadd, 1), (440, .iaload, 1), (441, .invokevirtual 41, 3), (444, .aload_n 2, 1), (445, .aload_n 0, 1), (446, .iload_n 3, 1), (447, .iconst 1, 1), (448, .iadd, 1), (449, .iaload, 1), (450, .aload_n 0, 1), (451, .iload_n 3, 1), (452, .iconst 2, 1), (453, .iadd, 1), (454, .iaload, 1), (455, .invokevirtual 44, 3), (458, .if_icmp .eq 830, 3), (461, .iconst 0, 1), (462, .ireturn, 1), (463, .aload_n 1, 1), (464, .aload_n 0, 1), (465, .iload_n 3, 1), (466, .iconst 1, 1), (467, .iadd, 1), (468, .iaload, 1), (469, .aload_n 0, 1), (470, .iload_n 3, 1), (471, .iconst 2, 1), (472, .iadd, 1), (473, .iaload, 1), (474, .aload_n 0, 1), (475, .iload_n 3, 1), (476, .iconst 3, 1), (477, .iadd, 1), (478, .iaload, 1), (479, .invokevirtual 45, 3)]
def ab_c192_6 : List (Nat × Instr × Nat) := [(482, .aload_n 2, 1), (483, .aload_n 0, 1), (484, .iload_n 3, 1), (485, .iconst 1, 1), (486, .iadd, 1), (487, .iaload, 1), (488, .aload_n 0, 1), (489, .iload_n 3, 1), (490, .iconst 2, 1), (491, .iadd, 1), (492, .iaload, 1), (493, .aload_n 0, 1), (494, .iload_n 3, 1), (495, .iconst 3, 1), (496, .iadd, 1), (497, .iaload, 1), (498, .invokevirtual 48, 3), (501, .if_icmp .eq 787, 3), (504, .iconst 0, 1), (505, .ireturn, 1), (506, .aload_n 1, 1), (507, .aload_n 0, 1), (508, .iload_n 3, 1), (509, .iconst 1, 1), (510, .iadd, 1), (511, .iaload, 1), (512, .invokevirtual 49, 3), (515, .aload_n 2, 1), (516, .aload_n 0, 1), (517, .iload_n 3, 1), (518, .iconst 1, 1), (519, .iadd, 1), (520, .iaload, 1), (521, .invokevirtual 52, 3), (524, .if_icmp .eq 764, 3), (527, .iconst 0, 1), (528, .ireturn, 1), (529, .aload_n 1, 1), (530, .aload_n 0, 1), (531, .iload_n 3, 1)]
def ab_c192_7 : List (Nat × Instr × Nat) := [(532, .iconst 1, 1), (533, .iadd, 1), (534, .iaload, 1), (535, .invokevirtual 53, 3), (538, .aload_n 2, 1), (539, .aload_n 0, 1), (540, .iload_n 3, 1), (541, .iconst 1, 1), (542, .iadd, 1), (543, .iaload, 1), (544, .invokevirtual 56, 3), (547, .if_icmp .eq 741, 3), (550, .iconst 0, 1), (551, .ireturn, 1), (552, .aload_n 1, 1), (553, .aload_n 0, 1), (554, .iload_n 3, 1), (555, .iconst 1, 1), (556, .iadd, 1), (557, .iaload, 1), (558, .aload_n 0, 1), (559, .iload_n 3, 1), (560, .iconst 2, 1), (561, .iadd, 1), (562, .iaload, 1), (563, .invokevirtual 57, 3), (566, .aload_n 2, 1), (567, .aload_n 0, 1), (568, .iload_n 3, 1), (569, .iconst 1, 1), (570, .iadd, 1), (571, .iaload, 1), (572, .aload_n 0, 1), (573, .iload_n 3, 1), (574, .iconst 2, 1), (575, .iadd, 1), (576, .iaload, 1), (577, .invokevirtual 60, 3), (580, .if_icmp .eq 708, 3), (583, .iconst 0, 1)]
def ab_c192_8 : List (Nat × Instr × Nat) := [(584, .ireturn, 1), (585, .aload_n 1, 1), (586, .aload_n 0, 1), (587, .iload_n 3, 1), (588, .iconst 1, 1), (589, .iadd, 1), (590, .iaload, 1), (591, .aload_n 0, 1), (592, .iload_n 3, 1), (593, .iconst 2, 1), (594, .iadd, 1), (595, .iaload, 1), (596, .invokevirtual 61, 3), (599, .aload_n 2, 1), (600, .aload_n 0, 1), (601, .iload_n 3, 1), (602, .iconst 1, 1), (603, .iadd, 1), (604, .iaload, 1), (605, .aload_n 0, 1), (606, .iload_n 3, 1), (607, .iconst 2, 1), (608, .iadd, 1), (609, .iaload, 1), (610, .invokevirtual 64, 3), (613, .if_icmp .eq 675, 3), (616, .iconst 0, 1), (617, .ireturn, 1), (618, .aload_n 1, 1), (619, .aload_n 0, 1), (620, .iload_n 3, 1), (621, .iconst 1, 1), (622, .iadd, 1), (623, .iaload, 1), (624, .aload_n 0, 1), (625, .iload_n 3, 1), (626, .iconst 2, 1), (627, .iadd, 1), (628, .iaload, 1), (629, .invokevirtual 65, 3)]
def ab_c192_9 : List (Nat × Instr × Nat) := [(632, .aload_n 2, 1), (633, .aload_n 0, 1), (634, .iload_n 3, 1), (635, .iconst 1, 1), (636, .iadd, 1), (637, .iaload, 1), (638, .aload_n 0, 1), (639, .iload_n 3, 1), (640, .iconst 2, 1), (641, .iadd, 1), (642, .iaload, 1), (643, .invokevirtual 68, 3), (646, .if_icmp .eq 642, 3), (649, .iconst 0, 1), (650, .ireturn, 1), (651, .aload_n 1, 1), (652, .aload_n 0, 1), (653, .iload_n 3, 1), (654, .iconst 1, 1), (655, .iadd, 1), (656, .iaload, 1), (657, .invokevirtual 69, 3), (660, .aload_n 2, 1), (661, .aload_n 0, 1), (662, .iload_n 3, 1), (663, .iconst 1, 1), (664, .iadd, 1), (665, .iaload, 1), (666, .invokevirtual 72, 3), (669, .if_icmp .eq 619, 3), (672, .iconst 0, 1), (673, .ireturn, 1), (674, .aload_n 1, 1), (675, .aload_n 0, 1), (676, .iload_n 3, 1), (677, .iconst 1, 1), (678, .iadd, 1), (679, .iaload, 1), (680, .invokevirtual 73, 3), (683, .aload_n 2, 1)]
def ab_c192_10 : List (Nat × Instr × Nat) := [(684, .aload_n 0, 1), (685, .iload_n 3, 1), (686, .iconst 1, 1), (687, .iadd, 1), (688, .iaload, 1), (689, .invokevirtual 76, 3), (692, .if_icmp .eq 596, 3), (695, .iconst 0, 1), (696, .ireturn, 1), (697, .aload_n 1, 1), (698, .aload_n 0, 1), (699, .iload_n 3, 1), (700, .iconst 1, 1), (701, .iadd, 1), (702, .iaload, 1), (703, .invokevirtual 77, 3), (706, .aload_n 2, 1), (707, .aload_n 0, 1), (708, .iload_n 3, 1), (709, .iconst 1, 1), (710, .iadd, 1), (711, .iaload, 1), (712, .invokevirtual 80, 3), (715, .if_icmp .eq 573, 3), (718, .iconst 0, 1), (719, .ireturn, 1), (720, .aload_n 1, 1), (721, .aload_n 0, 1), (722, .iload_n 3, 1), (723, .iconst 1, 1), (724, .iadd, 1), (725, .iaload, 1), (726, .invokevirtual 81, 3), (729, .aload_n 2, 1), (730, .aload_n 0, 1), (731, .iload_n 3, 1), (732, .iconst 1, 1), (733, .iadd, 1), (734, .iaload, 1), (735, .invokevirtual 84, 3)]
def ab_c192_11 : List (Nat × Instr × Nat) := [(738, .if_icmp .eq 550, 3), (741, .iconst 0, 1), (742, .ireturn, 1), (743, .aload_n 1, 1), (744, .aload_n 0, 1), (745, .iload_n 3, 1), (746, .iconst 1, 1), (747, .iadd, 1), (748, .iaload, 1), (749, .invokevirtual 85, 3), (752, .aload_n 2, 1), (753, .aload_n 0, 1), (754, .iload_n 3, 1), (755, .iconst 1, 1), (756, .iadd, 1), (757, .iaload, 1), (758, .invokevirtual 88, 3), (761, .if_icmp .eq 527, 3), (764, .iconst 0, 1), (765, .ireturn, 1), (766, .aload_n 1, 1), (767, .aload_n 0, 1), (768, .iload_n 3, 1), (769, .iconst 1, 1), (770, .iadd, 1), (771, .iaload, 1), (772, .aload_n 0, 1), (773, .iload_n 3, 1), (774, .iconst 2, 1), (775, .iadd, 1), (776, .iaload, 1), (777, .invokevirtual 89, 3), (780, .aload_n 2, 1), (781, .aload_n 0, 1), (782, .iload_n 3, 1), (783, .iconst 1, 1), (784, .iadd, 1), (785, .iaload, 1), (786, .aload_n 0, 1), (787, .iload_n 3, 1)]
def ab_c192_12 : List (Nat × Instr × Nat) := [(788, .iconst 2, 1), (789, .iadd, 1), (790, .iaload, 1), (791, .invokevirtual 92, 3), (794, .if_icmp .eq 494, 3), (797, .iconst 0, 1), (798, .ireturn, 1), (799, .aload_n 1, 1), (800, .aload_n 0, 1), (801, .iload_n 3, 1), (802, .iconst 1, 1), (803, .iadd, 1), (804, .iaload, 1), (805, .invokevirtual 93, 3), (808, .aload_n 2, 1), (809, .aload_n 0, 1), (810, .iload_n 3, 1), (811, .iconst 1, 1), (812, .iadd, 1), (813, .iaload, 1), (814, .invokevirtual 96, 3), (817, .if_icmp .eq 471, 3), (820, .iconst 0, 1), (821, .ireturn, 1), (822, .aload_n 1, 1), (823, .aload_n 0, 1), (824, .iload_n 3, 1), (825, .iconst 1, 1), (826, .iadd, 1), (827, .iaload, 1), (828, .aload_n 0, 1), (829, .iload_n 3, 1), (830, .iconst 2, 1), (831, .iadd, 1), (832, .iaload, 1), (833, .invokevirtual 97, 3), (836, .aload_n 2, 1), (837, .aload_n 0, 1), (838, .iload_n 3, 1), (839, .iconst 1, 1)]
def ab_c192_13 : List (Nat × Instr × Nat) := [(840, .iadd, 1), (841, .iaload, 1), (842, .aload_n 0, 1), (843, .iload_n 3, 1), (844, .iconst 2, 1), (845, .iadd, 1), (846, .iaload, 1), (847, .invokevirtual 100, 3), (850, .if_icmp .eq 438, 3), (853, .iconst 0, 1), (854, .ireturn, 1), (855, .aload_n 1, 1), (856, .invokevirtual 101, 3), (859, .aload_n 2, 1), (860, .invokevirtual 105, 3), (863, .if_icmp .eq 425, 3), (866, .iconst 0, 1), (867, .ireturn, 1), (868, .aload_n 1, 1), (869, .aload_n 0, 1), (870, .iload_n 3, 1), (871, .iconst 1, 1), (872, .iadd, 1), (873, .iaload, 1), (874, .invokevirtual 106, 3), (877, .aload_n 2, 1), (878, .aload_n 0, 1), (879, .iload_n 3, 1), (880, .iconst 1, 1), (881, .iadd, 1), (882, .iaload, 1), (883, .invokevirtual 109, 3), (886, .if_icmp .eq 402, 3), (889, .iconst 0, 1), (890, .ireturn, 1), (891, .aload_n 1, 1), (892, .invokevirtual 110, 3), (895, .aload_n 2, 1), (896, .invokevirtual 113, 3), (899, .if_icmp .eq 389, 3)]
def ab_c192_14 : List (Nat × Instr × Nat) := [(902, .iconst 0, 1), (903, .ireturn, 1), (904, .aload_n 1, 1), (905, .invokevirtual 114, 3), (908, .aload_n 2, 1), (909, .invokevirtual 117, 3), (912, .if_icmp .eq 376, 3), (915, .iconst 0, 1), (916, .ireturn, 1), (917, .aload_n 1, 1), (918, .invokevirtual 118, 3), (921, .aload_n 2, 1), (922, .invokevirtual 121, 3), (925, .if_icmp .eq 363, 3), (928, .iconst 0, 1), (929, .ireturn, 1), (930, .aload_n 1, 1), (931, .aload_n 0, 1), (932, .iload_n 3, 1), (933, .iconst 1, 1), (934, .iadd, 1), (935, .iaload, 1), (936, .aload_n 0, 1), (937, .iload_n 3, 1), (938, .iconst 2, 1), (939, .iadd, 1), (940, .iaload, 1), (941, .invokevirtual 122, 3), (944, .aload_n 2, 1), (945, .aload_n 0, 1), (946, .iload_n 3, 1), (947, .iconst 1, 1), (948, .iadd, 1), (949, .iaload, 1), (950, .aload_n 0, 1), (951, .iload_n 3, 1), (952, .iconst 2, 1), (953, .iadd, 1), (954, .iaload, 1), (955, .invokevirtual 125, 3)]
def ab_c192_15 : List (Nat × Instr × Nat) := [(958, .if_icmp .eq 330, 3), (961, .iconst 0, 1), (962, .ireturn, 1), (963, .aload_n 1, 1), (964, .aload_n 0, 1), (965, .iload_n 3, 1), (966, .iconst 1, 1), (967, .iadd, 1), (968, .iaload, 1), (969, .aload_n 0, 1), (970, .iload_n 3, 1), (971, .iconst 2, 1), (972, .iadd, 1), (973, .iaload, 1), (974, .aload_n 0, 1), (975, .iload_n 3, 1), (976, .iconst 3, 1), (977, .iadd, 1), (978, .iaload, 1), (979, .invokevirtual 126, 3), (982, .aload_n 2, 1), (983, .aload_n 0, 1), (984, .iload_n 3, 1), (985, .iconst 1, 1), (986, .iadd, 1), (987, .iaload, 1), (988, .aload_n 0, 1), (989, .iload_n 3, 1), (990, .iconst 2, 1), (991, .iadd, 1), (992, .iaload, 1), (993, .aload_n 0, 1), (994, .iload_n 3, 1), (995, .iconst 3, 1), (996, .iadd, 1), (997, .iaload, 1), (998, .invokevirtual 129, 3), (1001, .if_icmp .eq 287, 3), (1004, .iconst 0, 1), (1005, .ireturn, 1)]
def ab_c192_16 : List (Nat × Instr × Nat) := [(1006, .aload_n 1, 1), (1007, .invokevirtual 130, 3), (1010, .aload_n 2, 1), (1011, .invokevirtual 133, 3), (1014, .if_icmp .eq 274, 3), (1017, .iconst 0, 1), (1018, .ireturn, 1), (1019, .aload_n 1, 1), (1020, .aload_n 0, 1), (1021, .iload_n 3, 1), (1022, .iconst 1, 1), (1023, .iadd, 1), (1024, .iaload, 1), (1025, .aload_n 0, 1), (1026, .iload_n 3, 1), (1027, .iconst 2, 1), (1028, .iadd, 1), (1029, .iaload, 1), (1030, .invokevirtual 134, 3), (1033, .aload_n 2, 1), (1034, .aload_n 0, 1), (1035, .iload_n 3, 1), (1036, .iconst 1, 1), (1037, .iadd, 1), (1038, .iaload, 1), (1039, .aload_n 0, 1), (1040, .iload_n 3, 1), (1041, .iconst 2, 1), (1042, .iadd, 1), (1043, .iaload, 1), (1044, .invokevirtual 137, 3), (1047, .if_icmp .eq 241, 3), (1050, .iconst 0, 1), (1051, .ireturn, 1), (1052, .aload_n 1, 1), (1053, .aload_n 0, 1), (1054, .iload_n 3, 1), (1055, .iconst 1, 1), (1056, .iadd, 1), (1057, .iaload, 1)]
def ab_c192_17 : List (Nat × Instr × Nat) := [(1058, .invokevirtual 138, 3), (1061, .aload_n 2, 1), (1062, .aload_n 0, 1), (1063, .iload_n 3, 1), (1064, .iconst 1, 1), (1065, .iadd, 1), (1066, .iaload, 1), (1067, .invokevirtual 141, 3), (1070, .if_icmp .eq 218, 3), (1073, .iconst 0, 1), (1074, .ireturn, 1), (1075, .aload_n 1, 1), (1076, .aload_n 0, 1), (1077, .iload_n 3, 1), (1078, .iconst 1, 1), (1079, .iadd, 1), (1080, .iaload, 1), (1081, .aload_n 0, 1), (1082, .iload_n 3, 1), (1083, .iconst 2, 1), (1084, .iadd, 1), (1085, .iaload, 1), (1086, .invokevirtual 142, 3), (1089, .aload_n 2, 1), (1090, .aload_n 0, 1), (1091, .iload_n 3, 1), (1092, .iconst 1, 1), (1093, .iadd, 1), (1094, .iaload, 1), (1095, .aload_n 0, 1), (1096, .iload_n 3, 1), (1097, .iconst 2, 1), (1098, .iadd, 1), (1099, .iaload, 1), (1100, .invokevirtual 145, 3), (1103, .if_icmp .eq 185, 3), (1106, .iconst 0, 1), (1107, .ireturn, 1), (1108, .aload_n 1, 1), (1109, .aload_n 0, 1)]
def ab_c192_18 : List (Nat × Instr × Nat) := [(1110, .iload_n 3, 1), (1111, .iconst 1, 1), (1112, .iadd, 1), (1113, .iaload, 1), (1114, .aload_n 0, 1), (1115, .iload_n 3, 1), (1116, .iconst 2, 1), (1117, .iadd, 1), (1118, .iaload, 1), (1119, .invokevirtual 146, 3), (1122, .aload_n 2, 1), (1123, .aload_n 0, 1), (1124, .iload_n 3, 1), (1125, .iconst 1, 1), (1126, .iadd, 1), (1127, .iaload, 1), (1128, .aload_n 0, 1), (1129, .iload_n 3, 1), (1130, .iconst 2, 1), (1131, .iadd, 1), (1132, .iaload, 1), (1133, .invokevirtual 149, 3), (1136, .if_icmp .eq 152, 3), (1139, .iconst 0, 1), (1140, .ireturn, 1), (1141, .aload_n 1, 1), (1142, .aload_n 0, 1), (1143, .iload_n 3, 1), (1144, .iconst 1, 1), (1145, .iadd, 1), (1146, .iaload, 1), (1147, .aload_n 0, 1), (1148, .iload_n 3, 1), (1149, .iconst 2, 1), (1150, .iadd, 1), (1151, .iaload, 1), (1152, .invokevirtual 150, 3), (1155, .aload_n 2, 1), (1156, .aload_n 0, 1), (1157, .iload_n 3, 1)]
def ab_c192_19 : List (Nat × Instr × Nat) := [(1158, .iconst 1, 1), (1159, .iadd, 1), (1160, .iaload, 1), (1161, .aload_n 0, 1), (1162, .iload_n 3, 1), (1163, .iconst 2, 1), (1164, .iadd, 1), (1165, .iaload, 1), (1166, .invokevirtual 153, 3), (1169, .if_icmp .eq 119, 3), (1172, .iconst 0, 1), (1173, .ireturn, 1), (1174, .aload_n 1, 1), (1175, .invokevirtual 154, 3), (1178, .aload_n 2, 1), (1179, .invokevirtual 157, 3), (1182, .if_icmp .eq 106, 3), (1185, .iconst 0, 1), (1186, .ireturn, 1), (1187, .aload_n 1, 1), (1188, .invokevirtual 158, 3), (1191, .aload_n 2, 1), (1192, .invokevirtual 162, 3), (1195, .lcmp, 1), (1196, .ifCond .eq 92, 3), (1199, .iconst 0, 1), (1200, .ireturn, 1), (1201, .aload_n 1, 1), (1202, .invokevirtual 163, 3), (1205, .aload_n 2, 1), (1206, .invokevirtual 166, 3), (1209, .lcmp, 1), (1210, .ifCond .eq 78, 3), (1213, .iconst 0, 1), (1214, .ireturn, 1), (1215, .aload_n 1, 1), (1216, .aload_n 0, 1), (1217, .iload_n 3, 1), (1218, .iconst 1, 1), (1219, .iadd, 1)]
def ab_c192_20 : List (Nat × Instr × Nat) := [(1220, .iaload, 1), (1221, .invokevirtual 167, 3), (1224, .aload_n 2, 1), (1225, .aload_n 0, 1), (1226, .iload_n 3, 1), (1227, .iconst 1, 1), (1228, .iadd, 1), (1229, .iaload, 1), (1230, .invokevirtual 170, 3), (1233, .if_icmp .eq 55, 3), (1236, .iconst 0, 1), (1237, .ireturn, 1), (1238, .aload_n 1, 1), (1239, .invokevirtual 171, 3), (1242, .aload_n 2, 1), (1243, .invokevirtual 174, 3), (1246, .if_icmp .eq 42, 3), (1249, .iconst 0, 1), (1250, .ireturn, 1), (1251, .aload_n 1, 1), (1252, .aload_n 0, 1), (1253, .iload_n 3, 1), (1254, .iconst 1, 1), (1255, .iadd, 1), (1256, .iaload, 1), (1257, .invokevirtual 175, 3), (1260, .aload_n 2, 1), (1261, .aload_n 0, 1), (1262, .iload_n 3, 1), (1263, .iconst 1, 1), (1264, .iadd, 1), (1265, .iaload, 1), (1266, .invokevirtual 178, 3), (1269, .if_icmp .eq 19, 3), (1272, .iconst 0, 1), (1273, .ireturn, 1), (1274, .aload_n 1, 1), (1275, .invokevirtual 179, 3), (1278, .aload_n 2, 1), (1279, .invokevirtual 182, 3)]
def ab_c192_21 : List (Nat × Instr × Nat) := [(1282, .lcmp, 1), (1283, .ifCond .eq 5, 3), (1286, .iconst 0, 1), (1287, .ireturn, 1), (1288, .iinc 3 6, 3), (1291, .goto (-1273), 3), (1294, .iconst 1, 1), (1295, .ireturn, 1)]
def ab_c192 : List (Nat × Instr × Nat) := ab_c192_0 ++ ab_c192_1 ++ ab_c192_2 ++ ab_c192_3 ++ ab_c192_4 ++ ab_c192_5 ++ ab_c192_6 ++ ab_c192_7 ++ ab_c192_8 ++ ab_c192_9 ++ ab_c192_10 ++ ab_c192_11 ++ ab_c192_12 ++ ab_c192_13 ++ ab_c192_14 ++ ab_c192_15 ++ ab_c192_16 ++ ab_c192_17 ++ ab_c192_18 ++ ab_c192_19 ++ ab_c192_20 ++ ab_c192_21
def ab_y192 : MethodName := ⟨"AbsentPostLaw", "law", "([I)Z"⟩
abbrev ab_E : Type := MethodName × ByteArray × Nat × Option FieldType × Nat × List (Nat × Instr × Nat)
def ab_e0 : ab_E := (ab_y0, prog_1_method_1_code, 2, none, 3, ab_c0)
def ab_e1 : ab_E := (ab_y1, object_method_1_code, 1, none, 6, ab_c1)
def ab_e2 : ab_E := (ab_y2, prog_10_method_103_code, 4, none, 7, ab_c2)
def ab_e3 : ab_E := (ab_y3, prog_2_method_1_code, 1, none, 0, ab_c3)
def ab_e4 : ab_E := (ab_y4, prog_3_method_1_code, 1, none, 1, ab_c4)
def ab_e5 : ab_E := (ab_y5, prog_4_method_1_code, 1, none, 2, ab_c5)
def ab_e6 : ab_E := (ab_y6, prog_1_method_2_code, 3, (some .int), 3, ab_c6)
def ab_e7 : ab_E := (ab_y7, prog_1_method_43_code, 1, (some .boolean), 3, ab_c7)
def ab_e8 : ab_E := (ab_y8, prog_1_method_49_code, 2, (some .int), 3, ab_c8)
def ab_e9 : ab_E := (ab_y9, prog_1_method_3_code, 5, (some .int), 3, ab_c9)
def ab_e10 : ab_E := (ab_y10, prog_1_method_50_code, 3, (some .int), 3, ab_c10)
def ab_e11 : ab_E := (ab_y11, prog_1_method_4_code, 4, (some .int), 3, ab_c11)
def ab_e12 : ab_E := (ab_y12, prog_1_method_5_code, 2, (some .int), 3, ab_c12)
def ab_e13 : ab_E := (ab_y13, prog_1_method_6_code, 6, (some .int), 3, ab_c13)
def ab_e14 : ab_E := (ab_y14, prog_1_method_48_code, 3, (some .boolean), 3, ab_c14)
def ab_e15 : ab_E := (ab_y15, prog_1_method_7_code, 6, (some .int), 3, ab_c15)
def ab_e16 : ab_E := (ab_y16, prog_1_method_8_code, 3, (some .int), 3, ab_c16)
def ab_e17 : ab_E := (ab_y17, prog_1_method_44_code, 1, (some .boolean), 3, ab_c17)
def ab_e18 : ab_E := (ab_y18, prog_10_method_109_code, 4, none, 7, ab_c18)
def ab_e19 : ab_E := (ab_y19, prog_1_method_9_code, 5, (some .int), 3, ab_c19)
def ab_e20 : ab_E := (ab_y20, prog_1_method_10_code, 2, (some .int), 3, ab_c20)
def ab_e21 : ab_E := (ab_y21, prog_1_method_55_code, 7, (some .int), 3, ab_c21)
def ab_e22 : ab_E := (ab_y22, prog_1_method_53_code, 2, (some .int), 3, ab_c22)
def ab_e23 : ab_E := (ab_y23, prog_1_method_54_code, 4, (some .boolean), 3, ab_c23)
def ab_e24 : ab_E := (ab_y24, prog_1_method_11_code, 3, (some .int), 3, ab_c24)
def ab_e25 : ab_E := (ab_y25, prog_2_method_2_code, 5, none, 0, ab_c25)
def ab_e26 : ab_E := (ab_y26, prog_1_method_58_code, 2, (some .int), 3, ab_c26)
def ab_e27 : ab_E := (ab_y27, prog_2_method_3_code, 1, none, 0, ab_c27)
def ab_e28 : ab_E := (ab_y28, prog_1_method_12_code, 3, (some .int), 3, ab_c28)
def ab_e29 : ab_E := (ab_y29, prog_1_method_47_code, 2, (some .boolean), 3, ab_c29)
def ab_e30 : ab_E := (ab_y30, prog_2_method_10_code, 3, (some .int), 0, ab_c30)
def ab_e31 : ab_E := (ab_y31, prog_2_method_5_code, 2, (some .int), 0, ab_c31)
def ab_e32 : ab_E := (ab_y32, prog_2_method_6_code, 2, (some .int), 0, ab_c32)
def ab_e33 : ab_E := (ab_y33, prog_1_method_60_code, 4, (some .int), 3, ab_c33)
def ab_e34 : ab_E := (ab_y34, prog_1_method_13_code, 5, (some .int), 3, ab_c34)
def ab_e35 : ab_E := (ab_y35, prog_1_method_59_code, 2, (some .boolean), 3, ab_c35)
def ab_e36 : ab_E := (ab_y36, prog_2_method_11_code, 3, (some .int), 0, ab_c36)
def ab_e37 : ab_E := (ab_y37, prog_7_method_49_code, 1, (some .int), 8, ab_c37)
def ab_e38 : ab_E := (ab_y38, prog_1_method_57_code, 2, (some .int), 3, ab_c38)
def ab_e39 : ab_E := (ab_y39, prog_1_method_56_code, 2, (some .boolean), 3, ab_c39)
def ab_e40 : ab_E := (ab_y40, prog_1_method_14_code, 3, (some .int), 3, ab_c40)
def ab_e41 : ab_E := (ab_y41, prog_1_method_46_code, 1, (some .boolean), 3, ab_c41)
def ab_e42 : ab_E := (ab_y42, prog_2_method_15_code, 3, none, 0, ab_c42)
def ab_e43 : ab_E := (ab_y43, prog_1_method_15_code, 3, (some .int), 3, ab_c43)
def ab_e44 : ab_E := (ab_y44, prog_1_method_51_code, 4, (some .int), 3, ab_c44)
def ab_e45 : ab_E := (ab_y45, prog_3_method_2_code, 3, none, 1, ab_c45)
def ab_e46 : ab_E := (ab_y46, prog_8_method_69_code, 2, (some .int), 9, ab_c46)
def ab_e47 : ab_E := (ab_y47, prog_2_method_16_code, 5, (some .int), 0, ab_c47)
def ab_e48 : ab_E := (ab_y48, prog_2_method_8_code, 4, none, 0, ab_c48)
def ab_e49 : ab_E := (ab_y49, prog_3_method_5_code, 8, (some .int), 1, ab_c49)
def ab_e50 : ab_E := (ab_y50, prog_8_method_59_code, 1, (some .int), 9, ab_c50)
def ab_e51 : ab_E := (ab_y51, prog_2_method_14_code, 3, none, 0, ab_c51)
def ab_e52 : ab_E := (ab_y52, prog_3_method_7_code, 4, (some .long), 1, ab_c52)
def ab_e53 : ab_E := (ab_y53, prog_1_method_16_code, 3, (some .int), 3, ab_c53)
def ab_e54 : ab_E := (ab_y54, prog_2_method_17_code, 6, none, 0, ab_c54)
def ab_e55 : ab_E := (ab_y55, prog_3_method_8_code, 4, none, 1, ab_c55)
def ab_e56 : ab_E := (ab_y56, prog_8_method_65_code, 2, (some .int), 9, ab_c56)
def ab_e57 : ab_E := (ab_y57, prog_1_method_17_code, 2, (some .int), 3, ab_c57)
def ab_e58 : ab_E := (ab_y58, prog_1_method_45_code, 1, (some .boolean), 3, ab_c58)
def ab_e59 : ab_E := (ab_y59, prog_2_method_4_code, 2, none, 0, ab_c59)
def ab_e60 : ab_E := (ab_y60, prog_1_method_18_code, 2, (some .int), 3, ab_c60)
def ab_e61 : ab_E := (ab_y61, prog_1_method_19_code, 4, (some .int), 3, ab_c61)
def ab_e62 : ab_E := (ab_y62, prog_1_method_20_code, 4, (some .int), 3, ab_c62)
def ab_e63 : ab_E := (ab_y63, prog_3_method_4_code, 5, (some .int), 1, ab_c63)
def ab_e64 : ab_E := (ab_y64, prog_1_method_21_code, 6, (some .int), 3, ab_c64)
def ab_e65 : ab_E := (ab_y65, prog_1_method_62_code, 1, (some .int), 3, ab_c65)
def ab_e66 : ab_E := (ab_y66, prog_1_method_22_code, 7, (some .int), 3, ab_c66)
def ab_e67 : ab_E := (ab_y67, prog_3_method_6_code, 5, (some .boolean), 1, ab_c67)
def ab_e68 : ab_E := (ab_y68, prog_2_method_7_code, 3, (some .int), 0, ab_c68)
def ab_e69 : ab_E := (ab_y69, prog_1_method_23_code, 3, (some .int), 3, ab_c69)
def ab_e70 : ab_E := (ab_y70, prog_1_method_24_code, 2, (some .int), 3, ab_c70)
def ab_e71 : ab_E := (ab_y71, prog_4_method_2_code, 2, none, 2, ab_c71)
def ab_e72 : ab_E := (ab_y72, prog_4_method_3_code, 5, none, 2, ab_c72)
def ab_e73 : ab_E := (ab_y73, prog_4_method_5_code, 2, none, 2, ab_c73)
def ab_e74 : ab_E := (ab_y74, prog_4_method_4_code, 7, none, 2, ab_c74)
def ab_e75 : ab_E := (ab_y75, prog_1_method_25_code, 1, (some .int), 3, ab_c75)
def ab_e76 : ab_E := (ab_y76, prog_1_method_26_code, 1, (some .int), 3, ab_c76)
def ab_e77 : ab_E := (ab_y77, prog_1_method_27_code, 4, (some .int), 3, ab_c77)
def ab_e78 : ab_E := (ab_y78, prog_2_method_9_code, 7, (some .int), 0, ab_c78)
def ab_e79 : ab_E := (ab_y79, prog_1_method_28_code, 6, (some .int), 3, ab_c79)
def ab_e80 : ab_E := (ab_y80, prog_1_method_52_code, 5, (some .int), 3, ab_c80)
def ab_e81 : ab_E := (ab_y81, prog_1_method_61_code, 4, (some .boolean), 3, ab_c81)
def ab_e82 : ab_E := (ab_y82, prog_1_method_29_code, 7, (some .int), 3, ab_c82)
def ab_e83 : ab_E := (ab_y83, prog_1_method_30_code, 3, (some .int), 3, ab_c83)
def ab_e84 : ab_E := (ab_y84, prog_1_method_31_code, 5, (some .int), 3, ab_c84)
def ab_e85 : ab_E := (ab_y85, prog_2_method_12_code, 4, (some .int), 0, ab_c85)
def ab_e86 : ab_E := (ab_y86, prog_1_method_32_code, 2, (some .int), 3, ab_c86)
def ab_e87 : ab_E := (ab_y87, prog_1_method_63_code, 10, (some .int), 3, ab_c87)
def ab_e88 : ab_E := (ab_y88, prog_1_method_64_code, 7, (some .int), 3, ab_c88)
def ab_e89 : ab_E := (ab_y89, prog_1_method_33_code, 4, (some .int), 3, ab_c89)
def ab_e90 : ab_E := (ab_y90, prog_1_method_65_code, 12, none, 3, ab_c90)
def ab_e91 : ab_E := (ab_y91, prog_1_method_34_code, 9, (some .int), 3, ab_c91)
def ab_e92 : ab_E := (ab_y92, prog_1_method_35_code, 7, (some .int), 3, ab_c92)
def ab_e93 : ab_E := (ab_y93, prog_3_method_3_code, 4, none, 1, ab_c93)
def ab_e94 : ab_E := (ab_y94, prog_1_method_36_code, 1, (some .int), 3, ab_c94)
def ab_e95 : ab_E := (ab_y95, prog_1_method_37_code, 1, (some .long), 3, ab_c95)
def ab_e96 : ab_E := (ab_y96, prog_1_method_38_code, 1, (some .long), 3, ab_c96)
def ab_e97 : ab_E := (ab_y97, prog_1_method_39_code, 2, (some .int), 3, ab_c97)
def ab_e98 : ab_E := (ab_y98, prog_2_method_13_code, 4, (some .int), 0, ab_c98)
def ab_e99 : ab_E := (ab_y99, prog_1_method_66_code, 6, (some .int), 3, ab_c99)
def ab_e100 : ab_E := (ab_y100, prog_1_method_67_code, 3, (some .int), 3, ab_c100)
def ab_e101 : ab_E := (ab_y101, prog_1_method_40_code, 1, (some .int), 3, ab_c101)
def ab_e102 : ab_E := (ab_y102, prog_1_method_41_code, 2, (some .int), 3, ab_c102)
def ab_e103 : ab_E := (ab_y103, prog_1_method_42_code, 5, (some .long), 3, ab_c103)
def ab_e104 : ab_E := (ab_y104, prog_6_method_1_code, 2, none, 4, ab_c104)
def ab_e105 : ab_E := (ab_y105, prog_6_method_13_code, 3, (some .int), 4, ab_c105)
def ab_e106 : ab_E := (ab_y106, prog_6_method_10_code, 1, (some .boolean), 4, ab_c106)
def ab_e107 : ab_E := (ab_y107, prog_6_method_3_code, 6, (some .boolean), 4, ab_c107)
def ab_e108 : ab_E := (ab_y108, prog_6_method_7_code, 2, (some .int), 4, ab_c108)
def ab_e109 : ab_E := (ab_y109, prog_6_method_12_code, 4, none, 4, ab_c109)
def ab_e110 : ab_E := (ab_y110, prog_6_method_14_code, 5, (some .int), 4, ab_c110)
def ab_e111 : ab_E := (ab_y111, prog_6_method_15_code, 3, (some .int), 4, ab_c111)
def ab_e112 : ab_E := (ab_y112, prog_6_method_8_code, 3, (some .int), 4, ab_c112)
def ab_e113 : ab_E := (ab_y113, prog_6_method_16_code, 2, (some .int), 4, ab_c113)
def ab_e114 : ab_E := (ab_y114, prog_6_method_18_code, 7, (some .int), 4, ab_c114)
def ab_e115 : ab_E := (ab_y115, prog_6_method_17_code, 3, (some .boolean), 4, ab_c115)
def ab_e116 : ab_E := (ab_y116, prog_6_method_19_code, 5, (some .int), 4, ab_c116)
def ab_e117 : ab_E := (ab_y117, prog_6_method_20_code, 4, (some .int), 4, ab_c117)
def ab_e118 : ab_E := (ab_y118, prog_6_method_11_code, 1, (some .boolean), 4, ab_c118)
def ab_e119 : ab_E := (ab_y119, prog_6_method_21_code, 5, (some .int), 4, ab_c119)
def ab_e120 : ab_E := (ab_y120, prog_6_method_29_code, 2, (some .int), 4, ab_c120)
def ab_e121 : ab_E := (ab_y121, prog_6_method_28_code, 3, (some .int), 4, ab_c121)
def ab_e122 : ab_E := (ab_y122, prog_6_method_24_code, 2, none, 4, ab_c122)
def ab_e123 : ab_E := (ab_y123, prog_6_method_23_code, 3, (some .int), 4, ab_c123)
def ab_e124 : ab_E := (ab_y124, prog_6_method_27_code, 8, (some .boolean), 4, ab_c124)
def ab_e125 : ab_E := (ab_y125, prog_6_method_22_code, 1, (some .int), 4, ab_c125)
def ab_e126 : ab_E := (ab_y126, prog_6_method_25_code, 4, (some .int), 4, ab_c126)
def ab_e127 : ab_E := (ab_y127, prog_6_method_26_code, 2, (some .int), 4, ab_c127)
def ab_e128 : ab_E := (ab_y128, prog_6_method_30_code, 3, (some .int), 4, ab_c128)
def ab_e129 : ab_E := (ab_y129, prog_6_method_9_code, 5, none, 4, ab_c129)
def ab_e130 : ab_E := (ab_y130, prog_6_method_37_code, 3, (some .int), 4, ab_c130)
def ab_e131 : ab_E := (ab_y131, prog_6_method_31_code, 2, (some .boolean), 4, ab_c131)
def ab_e132 : ab_E := (ab_y132, prog_6_method_36_code, 3, (some .int), 4, ab_c132)
def ab_e133 : ab_E := (ab_y133, prog_6_method_34_code, 2, (some .int), 4, ab_c133)
def ab_e134 : ab_E := (ab_y134, prog_6_method_35_code, 2, (some .int), 4, ab_c134)
def ab_e135 : ab_E := (ab_y135, prog_6_method_33_code, 4, (some .int), 4, ab_c135)
def ab_e136 : ab_E := (ab_y136, prog_6_method_39_code, 6, (some .int), 4, ab_c136)
def ab_e137 : ab_E := (ab_y137, prog_6_method_38_code, 2, (some .int), 4, ab_c137)
def ab_e138 : ab_E := (ab_y138, prog_6_method_5_code, 3, (some .int), 4, ab_c138)
def ab_e139 : ab_E := (ab_y139, prog_6_method_4_code, 2, (some .boolean), 4, ab_c139)
def ab_e140 : ab_E := (ab_y140, prog_6_method_41_code, 3, (some .int), 4, ab_c140)
def ab_e141 : ab_E := (ab_y141, prog_6_method_32_code, 1, (some .boolean), 4, ab_c141)
def ab_e142 : ab_E := (ab_y142, prog_6_method_40_code, 1, none, 4, ab_c142)
def ab_e143 : ab_E := (ab_y143, prog_6_method_48_code, 3, (some .int), 4, ab_c143)
def ab_e144 : ab_E := (ab_y144, prog_6_method_46_code, 3, (some .int), 4, ab_c144)
def ab_e145 : ab_E := (ab_y145, prog_6_method_42_code, 2, none, 4, ab_c145)
def ab_e146 : ab_E := (ab_y146, prog_6_method_43_code, 1, none, 4, ab_c146)
def ab_e147 : ab_E := (ab_y147, prog_6_method_45_code, 3, none, 4, ab_c147)
def ab_e148 : ab_E := (ab_y148, prog_6_method_44_code, 4, (some .int), 4, ab_c148)
def ab_e149 : ab_E := (ab_y149, prog_6_method_6_code, 2, (some .int), 4, ab_c149)
def ab_e150 : ab_E := (ab_y150, prog_6_method_47_code, 2, none, 4, ab_c150)
def ab_e151 : ab_E := (ab_y151, prog_6_method_49_code, 3, (some .int), 4, ab_c151)
def ab_e152 : ab_E := (ab_y152, prog_6_method_50_code, 2, (some .int), 4, ab_c152)
def ab_e153 : ab_E := (ab_y153, prog_6_method_51_code, 2, (some .int), 4, ab_c153)
def ab_e154 : ab_E := (ab_y154, prog_6_method_52_code, 4, (some .int), 4, ab_c154)
def ab_e155 : ab_E := (ab_y155, prog_6_method_53_code, 6, (some .int), 4, ab_c155)
def ab_e156 : ab_E := (ab_y156, prog_6_method_54_code, 5, (some .int), 4, ab_c156)
def ab_e157 : ab_E := (ab_y157, prog_6_method_55_code, 8, (some .int), 4, ab_c157)
def ab_e158 : ab_E := (ab_y158, prog_6_method_56_code, 3, (some .int), 4, ab_c158)
def ab_e159 : ab_E := (ab_y159, prog_6_method_61_code, 5, (some .int), 4, ab_c159)
def ab_e160 : ab_E := (ab_y160, prog_6_method_60_code, 2, (some .int), 4, ab_c160)
def ab_e161 : ab_E := (ab_y161, prog_6_method_57_code, 1, none, 4, ab_c161)
def ab_e162 : ab_E := (ab_y162, prog_6_method_58_code, 2, (some .boolean), 4, ab_c162)
def ab_e163 : ab_E := (ab_y163, prog_6_method_59_code, 2, none, 4, ab_c163)
def ab_e164 : ab_E := (ab_y164, prog_6_method_62_code, 4, (some .int), 4, ab_c164)
def ab_e165 : ab_E := (ab_y165, prog_6_method_63_code, 3, (some .int), 4, ab_c165)
def ab_e166 : ab_E := (ab_y166, prog_6_method_65_code, 4, (some .int), 4, ab_c166)
def ab_e167 : ab_E := (ab_y167, prog_6_method_64_code, 11, (some .int), 4, ab_c167)
def ab_e168 : ab_E := (ab_y168, prog_6_method_68_code, 6, (some .int), 4, ab_c168)
def ab_e169 : ab_E := (ab_y169, prog_6_method_66_code, 3, (some .int), 4, ab_c169)
def ab_e170 : ab_E := (ab_y170, prog_6_method_67_code, 5, (some .boolean), 4, ab_c170)
def ab_e171 : ab_E := (ab_y171, prog_6_method_69_code, 7, (some .int), 4, ab_c171)
def ab_e172 : ab_E := (ab_y172, prog_6_method_70_code, 3, (some .int), 4, ab_c172)
def ab_e173 : ab_E := (ab_y173, prog_6_method_71_code, 6, (some .int), 4, ab_c173)
def ab_e174 : ab_E := (ab_y174, prog_6_method_74_code, 8, (some .int), 4, ab_c174)
def ab_e175 : ab_E := (ab_y175, prog_6_method_73_code, 8, (some .int), 4, ab_c175)
def ab_e176 : ab_E := (ab_y176, prog_6_method_72_code, 8, (some .int), 4, ab_c176)
def ab_e177 : ab_E := (ab_y177, prog_6_method_76_code, 4, (some .int), 4, ab_c177)
def ab_e178 : ab_E := (ab_y178, prog_6_method_75_code, 11, (some .int), 4, ab_c178)
def ab_e179 : ab_E := (ab_y179, prog_6_method_77_code, 9, (some .int), 4, ab_c179)
def ab_e180 : ab_E := (ab_y180, prog_6_method_78_code, 8, (some .int), 4, ab_c180)
def ab_e181 : ab_E := (ab_y181, prog_6_method_79_code, 1, (some .int), 4, ab_c181)
def ab_e182 : ab_E := (ab_y182, prog_6_method_80_code, 1, (some .long), 4, ab_c182)
def ab_e183 : ab_E := (ab_y183, prog_6_method_81_code, 1, (some .long), 4, ab_c183)
def ab_e184 : ab_E := (ab_y184, prog_6_method_85_code, 2, (some .int), 4, ab_c184)
def ab_e185 : ab_E := (ab_y185, prog_6_method_84_code, 4, (some .int), 4, ab_c185)
def ab_e186 : ab_E := (ab_y186, prog_6_method_83_code, 5, (some .int), 4, ab_c186)
def ab_e187 : ab_E := (ab_y187, prog_6_method_82_code, 4, (some .int), 4, ab_c187)
def ab_e188 : ab_E := (ab_y188, prog_6_method_86_code, 1, (some .int), 4, ab_c188)
def ab_e189 : ab_E := (ab_y189, prog_6_method_87_code, 2, (some .int), 4, ab_c189)
def ab_e190 : ab_E := (ab_y190, prog_6_method_89_code, 3, (some .long), 4, ab_c190)
def ab_e191 : ab_E := (ab_y191, prog_6_method_88_code, 3, none, 4, ab_c191)
def ab_e192 : ab_E := (ab_y192, code, 4, (some .boolean), 5, ab_c192)
def ab_mt : List ab_E := [ab_e0, ab_e1, ab_e2, ab_e3, ab_e4, ab_e5, ab_e6, ab_e7, ab_e8, ab_e9, ab_e10, ab_e11, ab_e12, ab_e13, ab_e14, ab_e15, ab_e16, ab_e17, ab_e18, ab_e19, ab_e20, ab_e21, ab_e22, ab_e23, ab_e24, ab_e25, ab_e26, ab_e27, ab_e28, ab_e29, ab_e30, ab_e31, ab_e32, ab_e33, ab_e34, ab_e35, ab_e36, ab_e37, ab_e38, ab_e39, ab_e40, ab_e41, ab_e42, ab_e43, ab_e44, ab_e45, ab_e46, ab_e47, ab_e48, ab_e49, ab_e50, ab_e51, ab_e52, ab_e53, ab_e54, ab_e55, ab_e56, ab_e57, ab_e58, ab_e59, ab_e60, ab_e61, ab_e62, ab_e63, ab_e64, ab_e65, ab_e66, ab_e67, ab_e68, ab_e69, ab_e70, ab_e71, ab_e72, ab_e73, ab_e74, ab_e75, ab_e76, ab_e77, ab_e78, ab_e79, ab_e80, ab_e81, ab_e82, ab_e83, ab_e84, ab_e85, ab_e86, ab_e87, ab_e88, ab_e89, ab_e90, ab_e91, ab_e92, ab_e93, ab_e94, ab_e95, ab_e96, ab_e97, ab_e98, ab_e99, ab_e100, ab_e101, ab_e102, ab_e103, ab_e104, ab_e105, ab_e106, ab_e107, ab_e108, ab_e109, ab_e110, ab_e111, ab_e112, ab_e113, ab_e114, ab_e115, ab_e116, ab_e117, ab_e118, ab_e119, ab_e120, ab_e121, ab_e122, ab_e123, ab_e124, ab_e125, ab_e126, ab_e127, ab_e128, ab_e129, ab_e130, ab_e131, ab_e132, ab_e133, ab_e134, ab_e135, ab_e136, ab_e137, ab_e138, ab_e139, ab_e140, ab_e141, ab_e142, ab_e143, ab_e144, ab_e145, ab_e146, ab_e147, ab_e148, ab_e149, ab_e150, ab_e151, ab_e152, ab_e153, ab_e154, ab_e155, ab_e156, ab_e157, ab_e158, ab_e159, ab_e160, ab_e161, ab_e162, ab_e163, ab_e164, ab_e165, ab_e166, ab_e167, ab_e168, ab_e169, ab_e170, ab_e171, ab_e172, ab_e173, ab_e174, ab_e175, ab_e176, ab_e177, ab_e178, ab_e179, ab_e180, ab_e181, ab_e182, ab_e183, ab_e184, ab_e185, ab_e186, ab_e187, ab_e188, ab_e189, ab_e190, ab_e191, ab_e192]
def ab_on : List String := ["AbsentPost$Post", "AbsentPost$Round", "AbsentPost$Search", "AbsentPost", "AbsentPostModel", "AbsentPostLaw", "java/lang/Object", "java/util/Arrays", "java/lang/Integer", "java/lang/Math", "java/lang/System"]
/-- (class number, constant pool place, class number of the object, slot, place of its word in lw_tbl) -/
def ab_fT : List (Nat × Nat × Nat × Nat × Nat) := [(0, 9, 0, 0, 77), (3, 119, 0, 0, 78), (0, 15, 0, 1, 79), (0, 18, 0, 2, 80), (0, 21, 0, 3, 81), (2, 70, 0, 3, 82), (3, 140, 0, 3, 83), (0, 24, 0, 4, 84), (3, 272, 0, 4, 85), (0, 27, 0, 5, 86), (3, 220, 0, 5, 87), (0, 30, 0, 6, 88), (0, 34, 0, 7, 89), (2, 63, 0, 7, 90), (3, 110, 0, 7, 91), (0, 61, 0, 8, 92), (3, 269, 0, 8, 93), (0, 64, 0, 9, 94), (3, 152, 0, 9, 95), (1, 9, 1, 0, 127), (1, 21, 1, 1, 128), (3, 177, 1, 1, 129), (2, 9, 2, 0, 141), (2, 15, 2, 1, 142), (2, 18, 2, 2, 143), (3, 196, 2, 2, 144), (2, 21, 2, 3, 145), (2, 24, 2, 4, 146), (2, 27, 2, 5, 147), (2, 30, 2, 6, 148), (2, 39, 2, 7, 149), (3, 199, 2, 7, 150), (2, 43, 2, 8, 151), (3, 202, 2, 8, 152), (2, 46, 2, 9, 153), (3, 211, 2, 9, 154), (2, 49, 2, 10, 155), (3, 208, 2, 10, 156), (2, 52, 2, 11, 157), (3, 205, 2, 11, 158), (3, 11, 3, 0, 184), (3, 14, 3, 1, 185), (3, 26, 3, 2, 186), (3, 29, 3, 3, 187), (3, 35, 3, 4, 188), (3, 39, 3, 5, 189), (3, 46, 3, 6, 190), (3, 53, 3, 7, 191), (3, 57, 3, 8, 192), (3, 60, 3, 9, 193), (3, 63, 3, 10, 194), (3, 82, 3, 11, 195), (3, 284, 3, 12, 196), (3, 266, 3, 13, 197), (3, 66, 3, 14, 198), (4, 7, 4, 0, 652), (4, 117, 4, 1, 653), (4, 13, 4, 2, 654), (4, 16, 4, 3, 655), (4, 19, 4, 4, 656), (4, 22, 4, 5, 657), (4, 25, 4, 6, 658), (4, 28, 4, 7, 659), (4, 47, 4, 8, 660), (4, 31, 4, 9, 661), (4, 51, 4, 10, 662), (4, 235, 4, 11, 663), (4, 34, 4, 12, 664), (4, 88, 4, 13, 665), (4, 38, 4, 14, 666), (4, 41, 4, 15, 667), (4, 159, 4, 16, 668), (4, 162, 4, 17, 669), (4, 165, 4, 18, 670), (4, 168, 4, 19, 671), (4, 171, 4, 20, 672), (4, 44, 4, 21, 673), (4, 194, 4, 22, 674), (4, 197, 4, 23, 675), (4, 264, 4, 24, 676)]
/-- (class number, pool place, method, arguments, 0 static 1 nest mate 2 virtual, places in lw_tbl: link, static or instance word, initialised, selects) -/
def ab_cT : List (Nat × Nat × Nat × Nat × Nat × Nat × Nat × Nat × Nat) := [(3, 18, 2, 2, 0, 66, 67, 48, 0), (5, 13, 6, 2, 2, 230, 231, 47, 232), (3, 70, 7, 1, 0, 234, 235, 47, 0), (3, 74, 8, 1, 2, 237, 239, 47, 0), (5, 18, 9, 3, 2, 241, 242, 47, 243), (3, 78, 10, 2, 2, 245, 247, 47, 1), (5, 23, 11, 2, 2, 249, 250, 47, 251), (5, 27, 12, 1, 2, 253, 254, 47, 255), (5, 32, 13, 5, 2, 257, 258, 47, 259), (3, 86, 14, 3, 0, 261, 262, 47, 0), (5, 37, 15, 1, 2, 267, 268, 47, 269), (5, 41, 16, 2, 2, 271, 272, 47, 273), (3, 96, 17, 1, 0, 275, 276, 47, 0), (3, 99, 18, 2, 0, 278, 279, 48, 0), (5, 45, 19, 3, 2, 281, 282, 47, 283), (5, 49, 20, 1, 2, 285, 286, 47, 287), (3, 102, 21, 2, 0, 289, 290, 47, 0), (3, 300, 22, 1, 0, 292, 293, 47, 0), (3, 303, 23, 3, 0, 297, 298, 47, 0), (5, 53, 24, 1, 2, 300, 301, 47, 302), (3, 106, 25, 2, 2, 304, 305, 49, 306), (0, 38, 22, 1, 1, 308, 293, 47, 0), (0, 42, 26, 2, 1, 309, 310, 47, 0), (0, 46, 27, 0, 2, 312, 313, 49, 314), (0, 55, 2, 2, 0, 317, 67, 48, 0), (5, 57, 28, 2, 2, 318, 319, 47, 320), (3, 113, 29, 1, 2, 322, 324, 47, 2), (3, 116, 30, 2, 2, 326, 327, 49, 328), (0, 67, 31, 1, 2, 330, 331, 49, 332), (0, 74, 32, 1, 2, 334, 335, 49, 336), (0, 70, 33, 3, 1, 338, 339, 47, 0), (5, 61, 34, 2, 2, 341, 342, 47, 343), (3, 122, 35, 2, 0, 345, 346, 47, 0), (3, 126, 31, 1, 2, 348, 331, 49, 332), (3, 129, 32, 1, 2, 349, 335, 49, 336), (3, 132, 36, 1, 2, 350, 351, 49, 352), (3, 135, 37, 1, 0, 354, 355, 54, 0), (3, 143, 38, 1, 0, 360, 361, 47, 0), (3, 149, 39, 2, 0, 363, 364, 47, 0), (5, 65, 40, 2, 2, 366, 367, 47, 368), (3, 146, 41, 1, 0, 370, 371, 47, 0), (3, 155, 42, 2, 2, 373, 374, 49, 375), (5, 69, 43, 1, 2, 377, 378, 47, 379), (3, 159, 44, 1, 2, 381, 383, 47, 3), (3, 294, 45, 2, 2, 385, 386, 50, 387), (1, 15, 46, 2, 4, 389, 390, 55, 0), (3, 162, 47, 2, 2, 393, 394, 49, 395), (0, 92, 48, 2, 2, 397, 398, 49, 399), (0, 96, 49, 2, 2, 401, 402, 50, 403), (1, 31, 50, 1, 5, 405, 406, 55, 0), (1, 35, 39, 2, 1, 408, 364, 47, 0), (0, 102, 51, 1, 2, 409, 410, 49, 411), (0, 87, 46, 2, 4, 413, 390, 55, 0), (0, 106, 52, 0, 2, 414, 415, 50, 416), (5, 73, 53, 1, 2, 418, 419, 47, 420), (3, 166, 54, 3, 2, 422, 423, 49, 424), (0, 110, 42, 2, 2, 426, 374, 49, 375), (0, 114, 55, 1, 2, 427, 428, 50, 429), (1, 44, 56, 2, 3, 432, 433, 55, 0), (0, 118, 47, 2, 2, 436, 394, 49, 395), (5, 77, 57, 1, 2, 437, 438, 47, 439), (3, 170, 58, 1, 0, 441, 442, 47, 0), (3, 173, 59, 1, 2, 444, 445, 49, 446), (5, 81, 60, 1, 2, 448, 449, 47, 450), (5, 85, 61, 1, 2, 452, 453, 47, 454), (5, 89, 62, 2, 2, 456, 457, 47, 458), (3, 180, 63, 1, 2, 460, 461, 50, 462), (5, 93, 64, 1, 2, 464, 465, 47, 466), (3, 183, 65, 0, 2, 468, 470, 47, 4), (3, 233, 48, 2, 2, 472, 398, 49, 399), (3, 237, 49, 2, 2, 473, 402, 50, 403), (5, 97, 66, 2, 2, 474, 475, 47, 476), (3, 187, 67, 2, 2, 478, 479, 50, 480), (1, 39, 63, 1, 2, 482, 461, 50, 462), (3, 190, 68, 2, 2, 483, 484, 49, 485), (5, 101, 69, 0, 2, 487, 488, 47, 489), (5, 106, 70, 1, 2, 491, 492, 47, 493), (3, 193, 71, 1, 2, 495, 496, 51, 497), (2, 33, 48, 2, 2, 499, 398, 49, 399), (2, 55, 72, 3, 2, 500, 502, 51, 5), (2, 59, 73, 1, 2, 504, 505, 51, 506), (2, 89, 46, 2, 4, 509, 390, 55, 0), (2, 66, 39, 2, 1, 510, 364, 47, 0), (2, 73, 74, 3, 2, 511, 512, 51, 513), (2, 77, 50, 1, 5, 515, 406, 55, 0), (5, 110, 75, 0, 2, 516, 517, 47, 518), (5, 114, 76, 0, 2, 520, 521, 47, 522), (5, 118, 77, 0, 2, 524, 525, 47, 526), (3, 214, 78, 2, 2, 528, 529, 49, 530), (0, 77, 39, 2, 1, 532, 364, 47, 0), (0, 81, 68, 2, 2, 533, 484, 49, 485), (5, 122, 79, 2, 2, 534, 535, 47, 536), (3, 217, 80, 1, 2, 538, 540, 47, 6), (3, 223, 33, 3, 0, 542, 339, 47, 0), (3, 227, 81, 2, 2, 543, 545, 47, 7), (5, 126, 82, 3, 2, 547, 548, 47, 549), (3, 230, 26, 2, 0, 551, 310, 47, 0), (5, 130, 83, 0, 2, 552, 553, 47, 554), (5, 134, 84, 2, 2, 556, 557, 47, 558), (3, 241, 51, 1, 2, 560, 410, 49, 411), (3, 245, 85, 1, 2, 561, 562, 49, 563), (5, 138, 86, 1, 2, 565, 566, 47, 567), (3, 249, 87, 4, 2, 569, 571, 47, 8), (3, 306, 50, 1, 5, 573, 406, 55, 0), (3, 311, 88, 4, 2, 574, 576, 47, 9), (3, 317, 46, 2, 4, 578, 390, 55, 0), (3, 314, 56, 2, 3, 579, 433, 55, 0), (5, 142, 89, 2, 2, 580, 581, 47, 582), (3, 255, 90, 2, 2, 585, 587, 47, 10), (5, 146, 91, 2, 2, 589, 590, 47, 591), (5, 150, 92, 2, 2, 593, 594, 47, 595), (3, 263, 93, 2, 2, 599, 600, 50, 601), (5, 154, 94, 0, 2, 603, 604, 47, 605), (5, 158, 95, 0, 2, 607, 608, 47, 609), (5, 163, 96, 0, 2, 611, 612, 47, 613), (5, 167, 97, 1, 2, 615, 616, 47, 617), (3, 275, 98, 1, 2, 619, 620, 49, 621), (0, 84, 35, 2, 1, 623, 346, 47, 0), (3, 278, 99, 1, 0, 624, 625, 47, 0), (3, 281, 100, 0, 2, 627, 629, 47, 11), (5, 171, 101, 0, 2, 631, 632, 47, 633), (5, 175, 102, 1, 2, 635, 636, 47, 637), (5, 179, 103, 0, 2, 639, 640, 47, 641), (3, 291, 97, 1, 2, 645, 616, 47, 617), (5, 17, 105, 2, 2, 728, 729, 52, 730), (4, 62, 106, 1, 0, 732, 733, 52, 0), (4, 56, 107, 3, 0, 736, 737, 52, 0), (4, 66, 108, 1, 2, 739, 741, 52, 12), (4, 70, 109, 2, 2, 743, 745, 52, 13), (5, 22, 110, 3, 2, 747, 748, 52, 749), (4, 74, 111, 2, 2, 751, 752, 52, 753), (4, 78, 112, 2, 2, 755, 757, 52, 14), (5, 26, 111, 2, 2, 759, 752, 52, 753), (5, 31, 113, 1, 2, 760, 761, 52, 762), (5, 36, 114, 5, 2, 764, 765, 52, 766), (4, 81, 115, 3, 0, 768, 769, 52, 0), (5, 40, 116, 1, 2, 771, 772, 52, 773), (5, 44, 117, 2, 2, 775, 776, 52, 777), (4, 85, 118, 1, 0, 779, 780, 52, 0), (5, 48, 119, 3, 2, 783, 784, 52, 785), (5, 52, 120, 1, 2, 787, 788, 52, 789), (4, 110, 121, 1, 2, 791, 793, 52, 15), (4, 103, 122, 1, 2, 795, 797, 52, 16), (4, 91, 123, 2, 2, 799, 801, 52, 17), (4, 107, 124, 1, 2, 803, 805, 52, 18), (4, 94, 125, 1, 0, 807, 808, 52, 0), (4, 97, 126, 2, 2, 810, 812, 52, 19), (4, 100, 127, 2, 0, 814, 815, 52, 0), (5, 56, 128, 1, 2, 817, 818, 52, 819), (4, 113, 129, 3, 2, 821, 823, 52, 20), (5, 60, 130, 2, 2, 825, 826, 52, 827), (4, 132, 131, 1, 2, 829, 831, 52, 21), (4, 137, 132, 2, 2, 834, 836, 52, 22), (4, 122, 133, 1, 2, 838, 840, 52, 23), (4, 129, 134, 1, 2, 842, 844, 52, 24), (4, 125, 135, 3, 0, 846, 847, 52, 0), (5, 64, 136, 2, 2, 849, 850, 52, 851), (4, 140, 137, 1, 2, 853, 855, 52, 25), (4, 143, 138, 1, 0, 857, 858, 52, 0), (4, 146, 139, 2, 0, 860, 861, 52, 0), (5, 68, 140, 2, 2, 863, 864, 52, 865), (4, 150, 141, 1, 0, 867, 868, 52, 0), (4, 153, 142, 0, 2, 871, 873, 52, 26), (5, 72, 143, 1, 2, 875, 876, 52, 877), (4, 180, 144, 1, 2, 879, 881, 52, 27), (4, 183, 145, 0, 2, 883, 885, 52, 28), (4, 156, 146, 0, 2, 887, 889, 52, 29), (4, 186, 147, 1, 2, 891, 893, 52, 30), (4, 177, 148, 1, 2, 895, 897, 52, 31), (4, 174, 149, 2, 0, 899, 900, 52, 0), (4, 189, 150, 0, 2, 902, 904, 52, 32), (5, 76, 151, 1, 2, 906, 907, 52, 908), (5, 80, 152, 1, 2, 910, 911, 52, 912), (5, 84, 153, 1, 2, 915, 916, 52, 917), (5, 88, 154, 1, 2, 919, 920, 52, 921), (5, 92, 155, 2, 2, 923, 924, 52, 925), (5, 96, 156, 1, 2, 927, 928, 52, 929), (5, 100, 157, 2, 2, 931, 932, 52, 933), (5, 105, 158, 0, 2, 935, 936, 52, 937), (5, 109, 159, 1, 2, 939, 940, 52, 941), (4, 210, 160, 0, 2, 943, 945, 52, 33), (4, 200, 161, 0, 2, 947, 949, 52, 34), (4, 203, 162, 0, 2, 951, 953, 52, 35), (4, 207, 163, 0, 2, 955, 957, 52, 36), (5, 113, 164, 0, 2, 959, 960, 52, 961), (5, 117, 165, 0, 2, 963, 964, 52, 965), (5, 121, 166, 0, 2, 967, 968, 52, 969), (4, 214, 167, 2, 2, 971, 973, 52, 37), (5, 125, 168, 2, 2, 975, 976, 52, 977), (4, 217, 169, 1, 2, 979, 981, 52, 38), (4, 220, 170, 2, 2, 983, 985, 52, 39), (5, 129, 171, 3, 2, 987, 988, 52, 989), (5, 133, 172, 0, 2, 992, 993, 52, 994), (5, 137, 173, 2, 2, 996, 997, 52, 998), (5, 141, 174, 1, 2, 1001, 1002, 52, 1003), (4, 231, 175, 4, 2, 1005, 1007, 52, 40), (4, 227, 176, 5, 2, 1009, 1011, 52, 41), (5, 145, 177, 2, 2, 1013, 1014, 52, 1015), (4, 240, 178, 2, 2, 1018, 1020, 52, 42), (5, 149, 179, 2, 2, 1022, 1023, 52, 1024), (5, 153, 180, 2, 2, 1026, 1027, 52, 1028), (5, 157, 181, 0, 2, 1034, 1035, 52, 1036), (5, 162, 182, 0, 2, 1038, 1039, 52, 1040), (5, 166, 183, 0, 2, 1042, 1043, 52, 1044), (5, 170, 184, 1, 2, 1046, 1047, 52, 1048), (4, 252, 185, 1, 2, 1050, 1052, 52, 43), (4, 255, 186, 2, 2, 1054, 1056, 52, 44), (4, 258, 187, 2, 0, 1058, 1059, 52, 0), (5, 174, 188, 0, 2, 1061, 1062, 52, 1063), (5, 178, 189, 1, 2, 1065, 1066, 52, 1067), (5, 182, 190, 0, 2, 1069, 1070, 52, 1071), (4, 269, 184, 1, 2, 1074, 1047, 52, 1048), (4, 272, 191, 1, 2, 1075, 1077, 52, 45)]
def ab_kT : List (Nat × Nat × Int64 × Nat) := [(1, 42, 15, 431), (1, 47, 7, 435), (3, 253, 12, 584), (3, 259, 2147483647, 597), (3, 261, 48271, 598), (3, 287, 17, 643), (3, 289, 31, 644), (4, 54, 5, 735), (4, 60, 3, 782), (4, 135, 4, 833), (4, 120, 11, 870), (4, 192, 2, 914), (4, 223, 9, 991), (4, 225, 30, 1000), (4, 238, 12, 1017), (4, 244, 20, 1030), (4, 246, 2147483646, 1031), (4, 248, 48271, 1032), (4, 250, 2147483647, 1033), (4, 267, 17, 1073), (4, 262, 31, 1079)]
def ab_jT : List (Nat × Nat × Int32 × Nat) := [(8, 265, 1431655765, 357), (8, 266, 858993459, 358), (8, 267, 252645135, 359)]
def ab_aT : List (Nat × Nat × Nat) := [(3, 90, 264), (0, 49, 316), (1, 25, 392), (2, 83, 508)]
def ab_zT : Nat × Nat × Nat := (3, 297, 295)
def ab_pT : List (Nat × Nat) := [(0, 60), (1, 63), (2, 68), (3, 75), (4, 125), (5, 139), (6, 233), (7, 236), (8, 240), (9, 244), (10, 248), (11, 252), (12, 256), (13, 260), (14, 263), (15, 270), (16, 274), (17, 277), (18, 280), (19, 284), (20, 288), (21, 291), (22, 294), (23, 299), (24, 303), (25, 307), (26, 311), (27, 315), (28, 321), (29, 325), (30, 329), (31, 333), (32, 337), (33, 340), (34, 344), (35, 347), (36, 353), (37, 356), (38, 362), (39, 365), (40, 369), (41, 372), (42, 376), (43, 380), (44, 384), (45, 388), (46, 391), (47, 396), (48, 400), (49, 404), (50, 407), (51, 412), (52, 417), (53, 421), (54, 425), (55, 430), (56, 434), (57, 440), (58, 443), (59, 447), (60, 451), (61, 455), (62, 459), (63, 463), (64, 467), (65, 471), (66, 477), (67, 481), (68, 486), (69, 490), (70, 494), (71, 498), (72, 503), (73, 507), (74, 514), (75, 519), (76, 523), (77, 527), (78, 531), (79, 537), (80, 541), (81, 546), (82, 550), (83, 555), (84, 559), (85, 564), (86, 568), (87, 572), (88, 577), (89, 583), (90, 588), (91, 592), (92, 596), (93, 602), (94, 606), (95, 610), (96, 614), (97, 618), (98, 622), (99, 626), (100, 630), (101, 634), (102, 638), (103, 642), (104, 650), (105, 731), (106, 734), (107, 738), (108, 742), (109, 746), (110, 750), (111, 754), (112, 758), (113, 763), (114, 767), (115, 770), (116, 774), (117, 778), (118, 781), (119, 786), (120, 790), (121, 794), (122, 798), (123, 802), (124, 806), (125, 809), (126, 813), (127, 816), (128, 820), (129, 824), (130, 828), (131, 832), (132, 837), (133, 841), (134, 845), (135, 848), (136, 852), (137, 856), (138, 859), (139, 862), (140, 866), (141, 869), (142, 874), (143, 878), (144, 882), (145, 886), (146, 890), (147, 894), (148, 898), (149, 901), (150, 905), (151, 909), (152, 913), (153, 918), (154, 922), (155, 926), (156, 930), (157, 934), (158, 938), (159, 942), (160, 946), (161, 950), (162, 954), (163, 958), (164, 962), (165, 966), (166, 970), (167, 974), (168, 978), (169, 982), (170, 986), (171, 990), (172, 995), (173, 999), (174, 1004), (175, 1008), (176, 1012), (177, 1016), (178, 1021), (179, 1025), (180, 1029), (181, 1037), (182, 1041), (183, 1045), (184, 1049), (185, 1053), (186, 1057), (187, 1060), (188, 1064), (189, 1068), (190, 1072), (191, 1078)]
end
section
theorem ab_d0_0 : (ab_c0_0.all fun q => decide (decode prog_1_method_1_code q.1 = .ok (q.2.1, q.2.2))) = true := by decide +kernel
theorem ab_d0 : (ab_c0.all fun q => decide (decode prog_1_method_1_code q.1 = .ok (q.2.1, q.2.2))) = true := by
  rw [ab_c0]; simp only [List.all_append, ab_d0_0, Bool.and_self]
theorem ab_d1_0 : (ab_c1_0.all fun q => decide (decode object_method_1_code q.1 = .ok (q.2.1, q.2.2))) = true := by decide +kernel
theorem ab_d1 : (ab_c1.all fun q => decide (decode object_method_1_code q.1 = .ok (q.2.1, q.2.2))) = true := by
  rw [ab_c1]; simp only [List.all_append, ab_d1_0, Bool.and_self]
theorem ab_d2_0 : (ab_c2_0.all fun q => decide (decode prog_10_method_103_code q.1 = .ok (q.2.1, q.2.2))) = true := by decide +kernel
theorem ab_d2 : (ab_c2.all fun q => decide (decode prog_10_method_103_code q.1 = .ok (q.2.1, q.2.2))) = true := by
  rw [ab_c2]; simp only [List.all_append, ab_d2_0, Bool.and_self]
theorem ab_d3_0 : (ab_c3_0.all fun q => decide (decode prog_2_method_1_code q.1 = .ok (q.2.1, q.2.2))) = true := by decide +kernel
theorem ab_d3 : (ab_c3.all fun q => decide (decode prog_2_method_1_code q.1 = .ok (q.2.1, q.2.2))) = true := by
  rw [ab_c3]; simp only [List.all_append, ab_d3_0, Bool.and_self]
theorem ab_d4_0 : (ab_c4_0.all fun q => decide (decode prog_3_method_1_code q.1 = .ok (q.2.1, q.2.2))) = true := by decide +kernel
theorem ab_d4 : (ab_c4.all fun q => decide (decode prog_3_method_1_code q.1 = .ok (q.2.1, q.2.2))) = true := by
  rw [ab_c4]; simp only [List.all_append, ab_d4_0, Bool.and_self]
theorem ab_d5_0 : (ab_c5_0.all fun q => decide (decode prog_4_method_1_code q.1 = .ok (q.2.1, q.2.2))) = true := by decide +kernel
theorem ab_d5 : (ab_c5.all fun q => decide (decode prog_4_method_1_code q.1 = .ok (q.2.1, q.2.2))) = true := by
  rw [ab_c5]; simp only [List.all_append, ab_d5_0, Bool.and_self]
theorem ab_d6_0 : (ab_c6_0.all fun q => decide (decode prog_1_method_2_code q.1 = .ok (q.2.1, q.2.2))) = true := by decide +kernel
theorem ab_d6 : (ab_c6.all fun q => decide (decode prog_1_method_2_code q.1 = .ok (q.2.1, q.2.2))) = true := by
  rw [ab_c6]; simp only [List.all_append, ab_d6_0, Bool.and_self]
theorem ab_d7_0 : (ab_c7_0.all fun q => decide (decode prog_1_method_43_code q.1 = .ok (q.2.1, q.2.2))) = true := by decide +kernel
theorem ab_d7 : (ab_c7.all fun q => decide (decode prog_1_method_43_code q.1 = .ok (q.2.1, q.2.2))) = true := by
  rw [ab_c7]; simp only [List.all_append, ab_d7_0, Bool.and_self]
theorem ab_d8_0 : (ab_c8_0.all fun q => decide (decode prog_1_method_49_code q.1 = .ok (q.2.1, q.2.2))) = true := by decide +kernel
theorem ab_d8 : (ab_c8.all fun q => decide (decode prog_1_method_49_code q.1 = .ok (q.2.1, q.2.2))) = true := by
  rw [ab_c8]; simp only [List.all_append, ab_d8_0, Bool.and_self]
theorem ab_d9_0 : (ab_c9_0.all fun q => decide (decode prog_1_method_3_code q.1 = .ok (q.2.1, q.2.2))) = true := by decide +kernel
theorem ab_d9 : (ab_c9.all fun q => decide (decode prog_1_method_3_code q.1 = .ok (q.2.1, q.2.2))) = true := by
  rw [ab_c9]; simp only [List.all_append, ab_d9_0, Bool.and_self]
theorem ab_d10_0 : (ab_c10_0.all fun q => decide (decode prog_1_method_50_code q.1 = .ok (q.2.1, q.2.2))) = true := by decide +kernel
theorem ab_d10 : (ab_c10.all fun q => decide (decode prog_1_method_50_code q.1 = .ok (q.2.1, q.2.2))) = true := by
  rw [ab_c10]; simp only [List.all_append, ab_d10_0, Bool.and_self]
theorem ab_d11_0 : (ab_c11_0.all fun q => decide (decode prog_1_method_4_code q.1 = .ok (q.2.1, q.2.2))) = true := by decide +kernel
theorem ab_d11 : (ab_c11.all fun q => decide (decode prog_1_method_4_code q.1 = .ok (q.2.1, q.2.2))) = true := by
  rw [ab_c11]; simp only [List.all_append, ab_d11_0, Bool.and_self]
theorem ab_d12_0 : (ab_c12_0.all fun q => decide (decode prog_1_method_5_code q.1 = .ok (q.2.1, q.2.2))) = true := by decide +kernel
theorem ab_d12 : (ab_c12.all fun q => decide (decode prog_1_method_5_code q.1 = .ok (q.2.1, q.2.2))) = true := by
  rw [ab_c12]; simp only [List.all_append, ab_d12_0, Bool.and_self]
theorem ab_d13_0 : (ab_c13_0.all fun q => decide (decode prog_1_method_6_code q.1 = .ok (q.2.1, q.2.2))) = true := by decide +kernel
theorem ab_d13_1 : (ab_c13_1.all fun q => decide (decode prog_1_method_6_code q.1 = .ok (q.2.1, q.2.2))) = true := by decide +kernel
theorem ab_d13 : (ab_c13.all fun q => decide (decode prog_1_method_6_code q.1 = .ok (q.2.1, q.2.2))) = true := by
  rw [ab_c13]; simp only [List.all_append, ab_d13_0, ab_d13_1, Bool.and_self]
theorem ab_d14_0 : (ab_c14_0.all fun q => decide (decode prog_1_method_48_code q.1 = .ok (q.2.1, q.2.2))) = true := by decide +kernel
theorem ab_d14 : (ab_c14.all fun q => decide (decode prog_1_method_48_code q.1 = .ok (q.2.1, q.2.2))) = true := by
  rw [ab_c14]; simp only [List.all_append, ab_d14_0, Bool.and_self]
theorem ab_d15_0 : (ab_c15_0.all fun q => decide (decode prog_1_method_7_code q.1 = .ok (q.2.1, q.2.2))) = true := by decide +kernel
theorem ab_d15_1 : (ab_c15_1.all fun q => decide (decode prog_1_method_7_code q.1 = .ok (q.2.1, q.2.2))) = true := by decide +kernel
theorem ab_d15 : (ab_c15.all fun q => decide (decode prog_1_method_7_code q.1 = .ok (q.2.1, q.2.2))) = true := by
  rw [ab_c15]; simp only [List.all_append, ab_d15_0, ab_d15_1, Bool.and_self]
theorem ab_d16_0 : (ab_c16_0.all fun q => decide (decode prog_1_method_8_code q.1 = .ok (q.2.1, q.2.2))) = true := by decide +kernel
theorem ab_d16 : (ab_c16.all fun q => decide (decode prog_1_method_8_code q.1 = .ok (q.2.1, q.2.2))) = true := by
  rw [ab_c16]; simp only [List.all_append, ab_d16_0, Bool.and_self]
theorem ab_d17_0 : (ab_c17_0.all fun q => decide (decode prog_1_method_44_code q.1 = .ok (q.2.1, q.2.2))) = true := by decide +kernel
theorem ab_d17 : (ab_c17.all fun q => decide (decode prog_1_method_44_code q.1 = .ok (q.2.1, q.2.2))) = true := by
  rw [ab_c17]; simp only [List.all_append, ab_d17_0, Bool.and_self]
theorem ab_d18_0 : (ab_c18_0.all fun q => decide (decode prog_10_method_109_code q.1 = .ok (q.2.1, q.2.2))) = true := by decide +kernel
theorem ab_d18 : (ab_c18.all fun q => decide (decode prog_10_method_109_code q.1 = .ok (q.2.1, q.2.2))) = true := by
  rw [ab_c18]; simp only [List.all_append, ab_d18_0, Bool.and_self]
theorem ab_d19_0 : (ab_c19_0.all fun q => decide (decode prog_1_method_9_code q.1 = .ok (q.2.1, q.2.2))) = true := by decide +kernel
theorem ab_d19_1 : (ab_c19_1.all fun q => decide (decode prog_1_method_9_code q.1 = .ok (q.2.1, q.2.2))) = true := by decide +kernel
theorem ab_d19 : (ab_c19.all fun q => decide (decode prog_1_method_9_code q.1 = .ok (q.2.1, q.2.2))) = true := by
  rw [ab_c19]; simp only [List.all_append, ab_d19_0, ab_d19_1, Bool.and_self]
theorem ab_d20_0 : (ab_c20_0.all fun q => decide (decode prog_1_method_10_code q.1 = .ok (q.2.1, q.2.2))) = true := by decide +kernel
theorem ab_d20 : (ab_c20.all fun q => decide (decode prog_1_method_10_code q.1 = .ok (q.2.1, q.2.2))) = true := by
  rw [ab_c20]; simp only [List.all_append, ab_d20_0, Bool.and_self]
theorem ab_d21_0 : (ab_c21_0.all fun q => decide (decode prog_1_method_55_code q.1 = .ok (q.2.1, q.2.2))) = true := by decide +kernel
theorem ab_d21_1 : (ab_c21_1.all fun q => decide (decode prog_1_method_55_code q.1 = .ok (q.2.1, q.2.2))) = true := by decide +kernel
theorem ab_d21 : (ab_c21.all fun q => decide (decode prog_1_method_55_code q.1 = .ok (q.2.1, q.2.2))) = true := by
  rw [ab_c21]; simp only [List.all_append, ab_d21_0, ab_d21_1, Bool.and_self]
theorem ab_d22_0 : (ab_c22_0.all fun q => decide (decode prog_1_method_53_code q.1 = .ok (q.2.1, q.2.2))) = true := by decide +kernel
theorem ab_d22 : (ab_c22.all fun q => decide (decode prog_1_method_53_code q.1 = .ok (q.2.1, q.2.2))) = true := by
  rw [ab_c22]; simp only [List.all_append, ab_d22_0, Bool.and_self]
theorem ab_d23_0 : (ab_c23_0.all fun q => decide (decode prog_1_method_54_code q.1 = .ok (q.2.1, q.2.2))) = true := by decide +kernel
theorem ab_d23 : (ab_c23.all fun q => decide (decode prog_1_method_54_code q.1 = .ok (q.2.1, q.2.2))) = true := by
  rw [ab_c23]; simp only [List.all_append, ab_d23_0, Bool.and_self]
theorem ab_d24_0 : (ab_c24_0.all fun q => decide (decode prog_1_method_11_code q.1 = .ok (q.2.1, q.2.2))) = true := by decide +kernel
theorem ab_d24_1 : (ab_c24_1.all fun q => decide (decode prog_1_method_11_code q.1 = .ok (q.2.1, q.2.2))) = true := by decide +kernel
theorem ab_d24 : (ab_c24.all fun q => decide (decode prog_1_method_11_code q.1 = .ok (q.2.1, q.2.2))) = true := by
  rw [ab_c24]; simp only [List.all_append, ab_d24_0, ab_d24_1, Bool.and_self]
theorem ab_d25_0 : (ab_c25_0.all fun q => decide (decode prog_2_method_2_code q.1 = .ok (q.2.1, q.2.2))) = true := by decide +kernel
theorem ab_d25_1 : (ab_c25_1.all fun q => decide (decode prog_2_method_2_code q.1 = .ok (q.2.1, q.2.2))) = true := by decide +kernel
theorem ab_d25_2 : (ab_c25_2.all fun q => decide (decode prog_2_method_2_code q.1 = .ok (q.2.1, q.2.2))) = true := by decide +kernel
theorem ab_d25 : (ab_c25.all fun q => decide (decode prog_2_method_2_code q.1 = .ok (q.2.1, q.2.2))) = true := by
  rw [ab_c25]; simp only [List.all_append, ab_d25_0, ab_d25_1, ab_d25_2, Bool.and_self]
theorem ab_d26_0 : (ab_c26_0.all fun q => decide (decode prog_1_method_58_code q.1 = .ok (q.2.1, q.2.2))) = true := by decide +kernel
theorem ab_d26 : (ab_c26.all fun q => decide (decode prog_1_method_58_code q.1 = .ok (q.2.1, q.2.2))) = true := by
  rw [ab_c26]; simp only [List.all_append, ab_d26_0, Bool.and_self]
theorem ab_d27_0 : (ab_c27_0.all fun q => decide (decode prog_2_method_3_code q.1 = .ok (q.2.1, q.2.2))) = true := by decide +kernel
theorem ab_d27 : (ab_c27.all fun q => decide (decode prog_2_method_3_code q.1 = .ok (q.2.1, q.2.2))) = true := by
  rw [ab_c27]; simp only [List.all_append, ab_d27_0, Bool.and_self]
theorem ab_d28_0 : (ab_c28_0.all fun q => decide (decode prog_1_method_12_code q.1 = .ok (q.2.1, q.2.2))) = true := by decide +kernel
theorem ab_d28 : (ab_c28.all fun q => decide (decode prog_1_method_12_code q.1 = .ok (q.2.1, q.2.2))) = true := by
  rw [ab_c28]; simp only [List.all_append, ab_d28_0, Bool.and_self]
theorem ab_d29_0 : (ab_c29_0.all fun q => decide (decode prog_1_method_47_code q.1 = .ok (q.2.1, q.2.2))) = true := by decide +kernel
theorem ab_d29 : (ab_c29.all fun q => decide (decode prog_1_method_47_code q.1 = .ok (q.2.1, q.2.2))) = true := by
  rw [ab_c29]; simp only [List.all_append, ab_d29_0, Bool.and_self]
theorem ab_d30_0 : (ab_c30_0.all fun q => decide (decode prog_2_method_10_code q.1 = .ok (q.2.1, q.2.2))) = true := by decide +kernel
theorem ab_d30 : (ab_c30.all fun q => decide (decode prog_2_method_10_code q.1 = .ok (q.2.1, q.2.2))) = true := by
  rw [ab_c30]; simp only [List.all_append, ab_d30_0, Bool.and_self]
theorem ab_d31_0 : (ab_c31_0.all fun q => decide (decode prog_2_method_5_code q.1 = .ok (q.2.1, q.2.2))) = true := by decide +kernel
theorem ab_d31 : (ab_c31.all fun q => decide (decode prog_2_method_5_code q.1 = .ok (q.2.1, q.2.2))) = true := by
  rw [ab_c31]; simp only [List.all_append, ab_d31_0, Bool.and_self]
theorem ab_d32_0 : (ab_c32_0.all fun q => decide (decode prog_2_method_6_code q.1 = .ok (q.2.1, q.2.2))) = true := by decide +kernel
theorem ab_d32 : (ab_c32.all fun q => decide (decode prog_2_method_6_code q.1 = .ok (q.2.1, q.2.2))) = true := by
  rw [ab_c32]; simp only [List.all_append, ab_d32_0, Bool.and_self]
theorem ab_d33_0 : (ab_c33_0.all fun q => decide (decode prog_1_method_60_code q.1 = .ok (q.2.1, q.2.2))) = true := by decide +kernel
theorem ab_d33 : (ab_c33.all fun q => decide (decode prog_1_method_60_code q.1 = .ok (q.2.1, q.2.2))) = true := by
  rw [ab_c33]; simp only [List.all_append, ab_d33_0, Bool.and_self]
theorem ab_d34_0 : (ab_c34_0.all fun q => decide (decode prog_1_method_13_code q.1 = .ok (q.2.1, q.2.2))) = true := by decide +kernel
theorem ab_d34_1 : (ab_c34_1.all fun q => decide (decode prog_1_method_13_code q.1 = .ok (q.2.1, q.2.2))) = true := by decide +kernel
theorem ab_d34 : (ab_c34.all fun q => decide (decode prog_1_method_13_code q.1 = .ok (q.2.1, q.2.2))) = true := by
  rw [ab_c34]; simp only [List.all_append, ab_d34_0, ab_d34_1, Bool.and_self]
theorem ab_d35_0 : (ab_c35_0.all fun q => decide (decode prog_1_method_59_code q.1 = .ok (q.2.1, q.2.2))) = true := by decide +kernel
theorem ab_d35 : (ab_c35.all fun q => decide (decode prog_1_method_59_code q.1 = .ok (q.2.1, q.2.2))) = true := by
  rw [ab_c35]; simp only [List.all_append, ab_d35_0, Bool.and_self]
theorem ab_d36_0 : (ab_c36_0.all fun q => decide (decode prog_2_method_11_code q.1 = .ok (q.2.1, q.2.2))) = true := by decide +kernel
theorem ab_d36 : (ab_c36.all fun q => decide (decode prog_2_method_11_code q.1 = .ok (q.2.1, q.2.2))) = true := by
  rw [ab_c36]; simp only [List.all_append, ab_d36_0, Bool.and_self]
theorem ab_d37_0 : (ab_c37_0.all fun q => decide (decode prog_7_method_49_code q.1 = .ok (q.2.1, q.2.2))) = true := by decide +kernel
theorem ab_d37_1 : (ab_c37_1.all fun q => decide (decode prog_7_method_49_code q.1 = .ok (q.2.1, q.2.2))) = true := by decide +kernel
theorem ab_d37 : (ab_c37.all fun q => decide (decode prog_7_method_49_code q.1 = .ok (q.2.1, q.2.2))) = true := by
  rw [ab_c37]; simp only [List.all_append, ab_d37_0, ab_d37_1, Bool.and_self]
theorem ab_d38_0 : (ab_c38_0.all fun q => decide (decode prog_1_method_57_code q.1 = .ok (q.2.1, q.2.2))) = true := by decide +kernel
theorem ab_d38 : (ab_c38.all fun q => decide (decode prog_1_method_57_code q.1 = .ok (q.2.1, q.2.2))) = true := by
  rw [ab_c38]; simp only [List.all_append, ab_d38_0, Bool.and_self]
theorem ab_d39_0 : (ab_c39_0.all fun q => decide (decode prog_1_method_56_code q.1 = .ok (q.2.1, q.2.2))) = true := by decide +kernel
theorem ab_d39 : (ab_c39.all fun q => decide (decode prog_1_method_56_code q.1 = .ok (q.2.1, q.2.2))) = true := by
  rw [ab_c39]; simp only [List.all_append, ab_d39_0, Bool.and_self]
theorem ab_d40_0 : (ab_c40_0.all fun q => decide (decode prog_1_method_14_code q.1 = .ok (q.2.1, q.2.2))) = true := by decide +kernel
theorem ab_d40 : (ab_c40.all fun q => decide (decode prog_1_method_14_code q.1 = .ok (q.2.1, q.2.2))) = true := by
  rw [ab_c40]; simp only [List.all_append, ab_d40_0, Bool.and_self]
theorem ab_d41_0 : (ab_c41_0.all fun q => decide (decode prog_1_method_46_code q.1 = .ok (q.2.1, q.2.2))) = true := by decide +kernel
theorem ab_d41 : (ab_c41.all fun q => decide (decode prog_1_method_46_code q.1 = .ok (q.2.1, q.2.2))) = true := by
  rw [ab_c41]; simp only [List.all_append, ab_d41_0, Bool.and_self]
theorem ab_d42_0 : (ab_c42_0.all fun q => decide (decode prog_2_method_15_code q.1 = .ok (q.2.1, q.2.2))) = true := by decide +kernel
theorem ab_d42 : (ab_c42.all fun q => decide (decode prog_2_method_15_code q.1 = .ok (q.2.1, q.2.2))) = true := by
  rw [ab_c42]; simp only [List.all_append, ab_d42_0, Bool.and_self]
theorem ab_d43_0 : (ab_c43_0.all fun q => decide (decode prog_1_method_15_code q.1 = .ok (q.2.1, q.2.2))) = true := by decide +kernel
theorem ab_d43 : (ab_c43.all fun q => decide (decode prog_1_method_15_code q.1 = .ok (q.2.1, q.2.2))) = true := by
  rw [ab_c43]; simp only [List.all_append, ab_d43_0, Bool.and_self]
theorem ab_d44_0 : (ab_c44_0.all fun q => decide (decode prog_1_method_51_code q.1 = .ok (q.2.1, q.2.2))) = true := by decide +kernel
theorem ab_d44_1 : (ab_c44_1.all fun q => decide (decode prog_1_method_51_code q.1 = .ok (q.2.1, q.2.2))) = true := by decide +kernel
theorem ab_d44 : (ab_c44.all fun q => decide (decode prog_1_method_51_code q.1 = .ok (q.2.1, q.2.2))) = true := by
  rw [ab_c44]; simp only [List.all_append, ab_d44_0, ab_d44_1, Bool.and_self]
theorem ab_d45_0 : (ab_c45_0.all fun q => decide (decode prog_3_method_2_code q.1 = .ok (q.2.1, q.2.2))) = true := by decide +kernel
theorem ab_d45 : (ab_c45.all fun q => decide (decode prog_3_method_2_code q.1 = .ok (q.2.1, q.2.2))) = true := by
  rw [ab_c45]; simp only [List.all_append, ab_d45_0, Bool.and_self]
theorem ab_d46_0 : (ab_c46_0.all fun q => decide (decode prog_8_method_69_code q.1 = .ok (q.2.1, q.2.2))) = true := by decide +kernel
theorem ab_d46 : (ab_c46.all fun q => decide (decode prog_8_method_69_code q.1 = .ok (q.2.1, q.2.2))) = true := by
  rw [ab_c46]; simp only [List.all_append, ab_d46_0, Bool.and_self]
theorem ab_d47_0 : (ab_c47_0.all fun q => decide (decode prog_2_method_16_code q.1 = .ok (q.2.1, q.2.2))) = true := by decide +kernel
theorem ab_d47_1 : (ab_c47_1.all fun q => decide (decode prog_2_method_16_code q.1 = .ok (q.2.1, q.2.2))) = true := by decide +kernel
theorem ab_d47 : (ab_c47.all fun q => decide (decode prog_2_method_16_code q.1 = .ok (q.2.1, q.2.2))) = true := by
  rw [ab_c47]; simp only [List.all_append, ab_d47_0, ab_d47_1, Bool.and_self]
theorem ab_d48_0 : (ab_c48_0.all fun q => decide (decode prog_2_method_8_code q.1 = .ok (q.2.1, q.2.2))) = true := by decide +kernel
theorem ab_d48 : (ab_c48.all fun q => decide (decode prog_2_method_8_code q.1 = .ok (q.2.1, q.2.2))) = true := by
  rw [ab_c48]; simp only [List.all_append, ab_d48_0, Bool.and_self]
theorem ab_d49_0 : (ab_c49_0.all fun q => decide (decode prog_3_method_5_code q.1 = .ok (q.2.1, q.2.2))) = true := by decide +kernel
theorem ab_d49_1 : (ab_c49_1.all fun q => decide (decode prog_3_method_5_code q.1 = .ok (q.2.1, q.2.2))) = true := by decide +kernel
theorem ab_d49 : (ab_c49.all fun q => decide (decode prog_3_method_5_code q.1 = .ok (q.2.1, q.2.2))) = true := by
  rw [ab_c49]; simp only [List.all_append, ab_d49_0, ab_d49_1, Bool.and_self]
theorem ab_d50_0 : (ab_c50_0.all fun q => decide (decode prog_8_method_59_code q.1 = .ok (q.2.1, q.2.2))) = true := by decide +kernel
theorem ab_d50 : (ab_c50.all fun q => decide (decode prog_8_method_59_code q.1 = .ok (q.2.1, q.2.2))) = true := by
  rw [ab_c50]; simp only [List.all_append, ab_d50_0, Bool.and_self]
theorem ab_d51_0 : (ab_c51_0.all fun q => decide (decode prog_2_method_14_code q.1 = .ok (q.2.1, q.2.2))) = true := by decide +kernel
theorem ab_d51 : (ab_c51.all fun q => decide (decode prog_2_method_14_code q.1 = .ok (q.2.1, q.2.2))) = true := by
  rw [ab_c51]; simp only [List.all_append, ab_d51_0, Bool.and_self]
theorem ab_d52_0 : (ab_c52_0.all fun q => decide (decode prog_3_method_7_code q.1 = .ok (q.2.1, q.2.2))) = true := by decide +kernel
theorem ab_d52 : (ab_c52.all fun q => decide (decode prog_3_method_7_code q.1 = .ok (q.2.1, q.2.2))) = true := by
  rw [ab_c52]; simp only [List.all_append, ab_d52_0, Bool.and_self]
theorem ab_d53_0 : (ab_c53_0.all fun q => decide (decode prog_1_method_16_code q.1 = .ok (q.2.1, q.2.2))) = true := by decide +kernel
theorem ab_d53 : (ab_c53.all fun q => decide (decode prog_1_method_16_code q.1 = .ok (q.2.1, q.2.2))) = true := by
  rw [ab_c53]; simp only [List.all_append, ab_d53_0, Bool.and_self]
theorem ab_d54_0 : (ab_c54_0.all fun q => decide (decode prog_2_method_17_code q.1 = .ok (q.2.1, q.2.2))) = true := by decide +kernel
theorem ab_d54_1 : (ab_c54_1.all fun q => decide (decode prog_2_method_17_code q.1 = .ok (q.2.1, q.2.2))) = true := by decide +kernel
theorem ab_d54 : (ab_c54.all fun q => decide (decode prog_2_method_17_code q.1 = .ok (q.2.1, q.2.2))) = true := by
  rw [ab_c54]; simp only [List.all_append, ab_d54_0, ab_d54_1, Bool.and_self]
theorem ab_d55_0 : (ab_c55_0.all fun q => decide (decode prog_3_method_8_code q.1 = .ok (q.2.1, q.2.2))) = true := by decide +kernel
theorem ab_d55 : (ab_c55.all fun q => decide (decode prog_3_method_8_code q.1 = .ok (q.2.1, q.2.2))) = true := by
  rw [ab_c55]; simp only [List.all_append, ab_d55_0, Bool.and_self]
theorem ab_d56_0 : (ab_c56_0.all fun q => decide (decode prog_8_method_65_code q.1 = .ok (q.2.1, q.2.2))) = true := by decide +kernel
theorem ab_d56 : (ab_c56.all fun q => decide (decode prog_8_method_65_code q.1 = .ok (q.2.1, q.2.2))) = true := by
  rw [ab_c56]; simp only [List.all_append, ab_d56_0, Bool.and_self]
theorem ab_d57_0 : (ab_c57_0.all fun q => decide (decode prog_1_method_17_code q.1 = .ok (q.2.1, q.2.2))) = true := by decide +kernel
theorem ab_d57 : (ab_c57.all fun q => decide (decode prog_1_method_17_code q.1 = .ok (q.2.1, q.2.2))) = true := by
  rw [ab_c57]; simp only [List.all_append, ab_d57_0, Bool.and_self]
theorem ab_d58_0 : (ab_c58_0.all fun q => decide (decode prog_1_method_45_code q.1 = .ok (q.2.1, q.2.2))) = true := by decide +kernel
theorem ab_d58 : (ab_c58.all fun q => decide (decode prog_1_method_45_code q.1 = .ok (q.2.1, q.2.2))) = true := by
  rw [ab_c58]; simp only [List.all_append, ab_d58_0, Bool.and_self]
theorem ab_d59_0 : (ab_c59_0.all fun q => decide (decode prog_2_method_4_code q.1 = .ok (q.2.1, q.2.2))) = true := by decide +kernel
theorem ab_d59_1 : (ab_c59_1.all fun q => decide (decode prog_2_method_4_code q.1 = .ok (q.2.1, q.2.2))) = true := by decide +kernel
theorem ab_d59 : (ab_c59.all fun q => decide (decode prog_2_method_4_code q.1 = .ok (q.2.1, q.2.2))) = true := by
  rw [ab_c59]; simp only [List.all_append, ab_d59_0, ab_d59_1, Bool.and_self]
theorem ab_d60_0 : (ab_c60_0.all fun q => decide (decode prog_1_method_18_code q.1 = .ok (q.2.1, q.2.2))) = true := by decide +kernel
theorem ab_d60 : (ab_c60.all fun q => decide (decode prog_1_method_18_code q.1 = .ok (q.2.1, q.2.2))) = true := by
  rw [ab_c60]; simp only [List.all_append, ab_d60_0, Bool.and_self]
theorem ab_d61_0 : (ab_c61_0.all fun q => decide (decode prog_1_method_19_code q.1 = .ok (q.2.1, q.2.2))) = true := by decide +kernel
theorem ab_d61 : (ab_c61.all fun q => decide (decode prog_1_method_19_code q.1 = .ok (q.2.1, q.2.2))) = true := by
  rw [ab_c61]; simp only [List.all_append, ab_d61_0, Bool.and_self]
theorem ab_d62_0 : (ab_c62_0.all fun q => decide (decode prog_1_method_20_code q.1 = .ok (q.2.1, q.2.2))) = true := by decide +kernel
theorem ab_d62 : (ab_c62.all fun q => decide (decode prog_1_method_20_code q.1 = .ok (q.2.1, q.2.2))) = true := by
  rw [ab_c62]; simp only [List.all_append, ab_d62_0, Bool.and_self]
theorem ab_d63_0 : (ab_c63_0.all fun q => decide (decode prog_3_method_4_code q.1 = .ok (q.2.1, q.2.2))) = true := by decide +kernel
theorem ab_d63 : (ab_c63.all fun q => decide (decode prog_3_method_4_code q.1 = .ok (q.2.1, q.2.2))) = true := by
  rw [ab_c63]; simp only [List.all_append, ab_d63_0, Bool.and_self]
theorem ab_d64_0 : (ab_c64_0.all fun q => decide (decode prog_1_method_21_code q.1 = .ok (q.2.1, q.2.2))) = true := by decide +kernel
theorem ab_d64 : (ab_c64.all fun q => decide (decode prog_1_method_21_code q.1 = .ok (q.2.1, q.2.2))) = true := by
  rw [ab_c64]; simp only [List.all_append, ab_d64_0, Bool.and_self]
theorem ab_d65_0 : (ab_c65_0.all fun q => decide (decode prog_1_method_62_code q.1 = .ok (q.2.1, q.2.2))) = true := by decide +kernel
theorem ab_d65 : (ab_c65.all fun q => decide (decode prog_1_method_62_code q.1 = .ok (q.2.1, q.2.2))) = true := by
  rw [ab_c65]; simp only [List.all_append, ab_d65_0, Bool.and_self]
theorem ab_d66_0 : (ab_c66_0.all fun q => decide (decode prog_1_method_22_code q.1 = .ok (q.2.1, q.2.2))) = true := by decide +kernel
theorem ab_d66_1 : (ab_c66_1.all fun q => decide (decode prog_1_method_22_code q.1 = .ok (q.2.1, q.2.2))) = true := by decide +kernel
theorem ab_d66 : (ab_c66.all fun q => decide (decode prog_1_method_22_code q.1 = .ok (q.2.1, q.2.2))) = true := by
  rw [ab_c66]; simp only [List.all_append, ab_d66_0, ab_d66_1, Bool.and_self]
theorem ab_d67_0 : (ab_c67_0.all fun q => decide (decode prog_3_method_6_code q.1 = .ok (q.2.1, q.2.2))) = true := by decide +kernel
theorem ab_d67 : (ab_c67.all fun q => decide (decode prog_3_method_6_code q.1 = .ok (q.2.1, q.2.2))) = true := by
  rw [ab_c67]; simp only [List.all_append, ab_d67_0, Bool.and_self]
theorem ab_d68_0 : (ab_c68_0.all fun q => decide (decode prog_2_method_7_code q.1 = .ok (q.2.1, q.2.2))) = true := by decide +kernel
theorem ab_d68 : (ab_c68.all fun q => decide (decode prog_2_method_7_code q.1 = .ok (q.2.1, q.2.2))) = true := by
  rw [ab_c68]; simp only [List.all_append, ab_d68_0, Bool.and_self]
theorem ab_d69_0 : (ab_c69_0.all fun q => decide (decode prog_1_method_23_code q.1 = .ok (q.2.1, q.2.2))) = true := by decide +kernel
theorem ab_d69 : (ab_c69.all fun q => decide (decode prog_1_method_23_code q.1 = .ok (q.2.1, q.2.2))) = true := by
  rw [ab_c69]; simp only [List.all_append, ab_d69_0, Bool.and_self]
theorem ab_d70_0 : (ab_c70_0.all fun q => decide (decode prog_1_method_24_code q.1 = .ok (q.2.1, q.2.2))) = true := by decide +kernel
theorem ab_d70_1 : (ab_c70_1.all fun q => decide (decode prog_1_method_24_code q.1 = .ok (q.2.1, q.2.2))) = true := by decide +kernel
theorem ab_d70 : (ab_c70.all fun q => decide (decode prog_1_method_24_code q.1 = .ok (q.2.1, q.2.2))) = true := by
  rw [ab_c70]; simp only [List.all_append, ab_d70_0, ab_d70_1, Bool.and_self]
theorem ab_d71_0 : (ab_c71_0.all fun q => decide (decode prog_4_method_2_code q.1 = .ok (q.2.1, q.2.2))) = true := by decide +kernel
theorem ab_d71 : (ab_c71.all fun q => decide (decode prog_4_method_2_code q.1 = .ok (q.2.1, q.2.2))) = true := by
  rw [ab_c71]; simp only [List.all_append, ab_d71_0, Bool.and_self]
theorem ab_d72_0 : (ab_c72_0.all fun q => decide (decode prog_4_method_3_code q.1 = .ok (q.2.1, q.2.2))) = true := by decide +kernel
theorem ab_d72 : (ab_c72.all fun q => decide (decode prog_4_method_3_code q.1 = .ok (q.2.1, q.2.2))) = true := by
  rw [ab_c72]; simp only [List.all_append, ab_d72_0, Bool.and_self]
theorem ab_d73_0 : (ab_c73_0.all fun q => decide (decode prog_4_method_5_code q.1 = .ok (q.2.1, q.2.2))) = true := by decide +kernel
theorem ab_d73_1 : (ab_c73_1.all fun q => decide (decode prog_4_method_5_code q.1 = .ok (q.2.1, q.2.2))) = true := by decide +kernel
theorem ab_d73 : (ab_c73.all fun q => decide (decode prog_4_method_5_code q.1 = .ok (q.2.1, q.2.2))) = true := by
  rw [ab_c73]; simp only [List.all_append, ab_d73_0, ab_d73_1, Bool.and_self]
theorem ab_d74_0 : (ab_c74_0.all fun q => decide (decode prog_4_method_4_code q.1 = .ok (q.2.1, q.2.2))) = true := by decide +kernel
theorem ab_d74_1 : (ab_c74_1.all fun q => decide (decode prog_4_method_4_code q.1 = .ok (q.2.1, q.2.2))) = true := by decide +kernel
theorem ab_d74_2 : (ab_c74_2.all fun q => decide (decode prog_4_method_4_code q.1 = .ok (q.2.1, q.2.2))) = true := by decide +kernel
theorem ab_d74 : (ab_c74.all fun q => decide (decode prog_4_method_4_code q.1 = .ok (q.2.1, q.2.2))) = true := by
  rw [ab_c74]; simp only [List.all_append, ab_d74_0, ab_d74_1, ab_d74_2, Bool.and_self]
theorem ab_d75_0 : (ab_c75_0.all fun q => decide (decode prog_1_method_25_code q.1 = .ok (q.2.1, q.2.2))) = true := by decide +kernel
theorem ab_d75 : (ab_c75.all fun q => decide (decode prog_1_method_25_code q.1 = .ok (q.2.1, q.2.2))) = true := by
  rw [ab_c75]; simp only [List.all_append, ab_d75_0, Bool.and_self]
theorem ab_d76_0 : (ab_c76_0.all fun q => decide (decode prog_1_method_26_code q.1 = .ok (q.2.1, q.2.2))) = true := by decide +kernel
theorem ab_d76 : (ab_c76.all fun q => decide (decode prog_1_method_26_code q.1 = .ok (q.2.1, q.2.2))) = true := by
  rw [ab_c76]; simp only [List.all_append, ab_d76_0, Bool.and_self]
theorem ab_d77_0 : (ab_c77_0.all fun q => decide (decode prog_1_method_27_code q.1 = .ok (q.2.1, q.2.2))) = true := by decide +kernel
theorem ab_d77_1 : (ab_c77_1.all fun q => decide (decode prog_1_method_27_code q.1 = .ok (q.2.1, q.2.2))) = true := by decide +kernel
theorem ab_d77 : (ab_c77.all fun q => decide (decode prog_1_method_27_code q.1 = .ok (q.2.1, q.2.2))) = true := by
  rw [ab_c77]; simp only [List.all_append, ab_d77_0, ab_d77_1, Bool.and_self]
theorem ab_d78_0 : (ab_c78_0.all fun q => decide (decode prog_2_method_9_code q.1 = .ok (q.2.1, q.2.2))) = true := by decide +kernel
theorem ab_d78_1 : (ab_c78_1.all fun q => decide (decode prog_2_method_9_code q.1 = .ok (q.2.1, q.2.2))) = true := by decide +kernel
theorem ab_d78 : (ab_c78.all fun q => decide (decode prog_2_method_9_code q.1 = .ok (q.2.1, q.2.2))) = true := by
  rw [ab_c78]; simp only [List.all_append, ab_d78_0, ab_d78_1, Bool.and_self]
theorem ab_d79_0 : (ab_c79_0.all fun q => decide (decode prog_1_method_28_code q.1 = .ok (q.2.1, q.2.2))) = true := by decide +kernel
theorem ab_d79_1 : (ab_c79_1.all fun q => decide (decode prog_1_method_28_code q.1 = .ok (q.2.1, q.2.2))) = true := by decide +kernel
theorem ab_d79 : (ab_c79.all fun q => decide (decode prog_1_method_28_code q.1 = .ok (q.2.1, q.2.2))) = true := by
  rw [ab_c79]; simp only [List.all_append, ab_d79_0, ab_d79_1, Bool.and_self]
theorem ab_d80_0 : (ab_c80_0.all fun q => decide (decode prog_1_method_52_code q.1 = .ok (q.2.1, q.2.2))) = true := by decide +kernel
theorem ab_d80_1 : (ab_c80_1.all fun q => decide (decode prog_1_method_52_code q.1 = .ok (q.2.1, q.2.2))) = true := by decide +kernel
theorem ab_d80 : (ab_c80.all fun q => decide (decode prog_1_method_52_code q.1 = .ok (q.2.1, q.2.2))) = true := by
  rw [ab_c80]; simp only [List.all_append, ab_d80_0, ab_d80_1, Bool.and_self]
theorem ab_d81_0 : (ab_c81_0.all fun q => decide (decode prog_1_method_61_code q.1 = .ok (q.2.1, q.2.2))) = true := by decide +kernel
theorem ab_d81 : (ab_c81.all fun q => decide (decode prog_1_method_61_code q.1 = .ok (q.2.1, q.2.2))) = true := by
  rw [ab_c81]; simp only [List.all_append, ab_d81_0, Bool.and_self]
theorem ab_d82_0 : (ab_c82_0.all fun q => decide (decode prog_1_method_29_code q.1 = .ok (q.2.1, q.2.2))) = true := by decide +kernel
theorem ab_d82_1 : (ab_c82_1.all fun q => decide (decode prog_1_method_29_code q.1 = .ok (q.2.1, q.2.2))) = true := by decide +kernel
theorem ab_d82 : (ab_c82.all fun q => decide (decode prog_1_method_29_code q.1 = .ok (q.2.1, q.2.2))) = true := by
  rw [ab_c82]; simp only [List.all_append, ab_d82_0, ab_d82_1, Bool.and_self]
theorem ab_d83_0 : (ab_c83_0.all fun q => decide (decode prog_1_method_30_code q.1 = .ok (q.2.1, q.2.2))) = true := by decide +kernel
theorem ab_d83 : (ab_c83.all fun q => decide (decode prog_1_method_30_code q.1 = .ok (q.2.1, q.2.2))) = true := by
  rw [ab_c83]; simp only [List.all_append, ab_d83_0, Bool.and_self]
theorem ab_d84_0 : (ab_c84_0.all fun q => decide (decode prog_1_method_31_code q.1 = .ok (q.2.1, q.2.2))) = true := by decide +kernel
theorem ab_d84_1 : (ab_c84_1.all fun q => decide (decode prog_1_method_31_code q.1 = .ok (q.2.1, q.2.2))) = true := by decide +kernel
theorem ab_d84 : (ab_c84.all fun q => decide (decode prog_1_method_31_code q.1 = .ok (q.2.1, q.2.2))) = true := by
  rw [ab_c84]; simp only [List.all_append, ab_d84_0, ab_d84_1, Bool.and_self]
theorem ab_d85_0 : (ab_c85_0.all fun q => decide (decode prog_2_method_12_code q.1 = .ok (q.2.1, q.2.2))) = true := by decide +kernel
theorem ab_d85 : (ab_c85.all fun q => decide (decode prog_2_method_12_code q.1 = .ok (q.2.1, q.2.2))) = true := by
  rw [ab_c85]; simp only [List.all_append, ab_d85_0, Bool.and_self]
theorem ab_d86_0 : (ab_c86_0.all fun q => decide (decode prog_1_method_32_code q.1 = .ok (q.2.1, q.2.2))) = true := by decide +kernel
theorem ab_d86 : (ab_c86.all fun q => decide (decode prog_1_method_32_code q.1 = .ok (q.2.1, q.2.2))) = true := by
  rw [ab_c86]; simp only [List.all_append, ab_d86_0, Bool.and_self]
theorem ab_d87_0 : (ab_c87_0.all fun q => decide (decode prog_1_method_63_code q.1 = .ok (q.2.1, q.2.2))) = true := by decide +kernel
theorem ab_d87_1 : (ab_c87_1.all fun q => decide (decode prog_1_method_63_code q.1 = .ok (q.2.1, q.2.2))) = true := by decide +kernel
theorem ab_d87 : (ab_c87.all fun q => decide (decode prog_1_method_63_code q.1 = .ok (q.2.1, q.2.2))) = true := by
  rw [ab_c87]; simp only [List.all_append, ab_d87_0, ab_d87_1, Bool.and_self]
theorem ab_d88_0 : (ab_c88_0.all fun q => decide (decode prog_1_method_64_code q.1 = .ok (q.2.1, q.2.2))) = true := by decide +kernel
theorem ab_d88_1 : (ab_c88_1.all fun q => decide (decode prog_1_method_64_code q.1 = .ok (q.2.1, q.2.2))) = true := by decide +kernel
theorem ab_d88 : (ab_c88.all fun q => decide (decode prog_1_method_64_code q.1 = .ok (q.2.1, q.2.2))) = true := by
  rw [ab_c88]; simp only [List.all_append, ab_d88_0, ab_d88_1, Bool.and_self]
theorem ab_d89_0 : (ab_c89_0.all fun q => decide (decode prog_1_method_33_code q.1 = .ok (q.2.1, q.2.2))) = true := by decide +kernel
theorem ab_d89 : (ab_c89.all fun q => decide (decode prog_1_method_33_code q.1 = .ok (q.2.1, q.2.2))) = true := by
  rw [ab_c89]; simp only [List.all_append, ab_d89_0, Bool.and_self]
theorem ab_d90_0 : (ab_c90_0.all fun q => decide (decode prog_1_method_65_code q.1 = .ok (q.2.1, q.2.2))) = true := by decide +kernel
theorem ab_d90 : (ab_c90.all fun q => decide (decode prog_1_method_65_code q.1 = .ok (q.2.1, q.2.2))) = true := by
  rw [ab_c90]; simp only [List.all_append, ab_d90_0, Bool.and_self]
theorem ab_d91_0 : (ab_c91_0.all fun q => decide (decode prog_1_method_34_code q.1 = .ok (q.2.1, q.2.2))) = true := by decide +kernel
theorem ab_d91_1 : (ab_c91_1.all fun q => decide (decode prog_1_method_34_code q.1 = .ok (q.2.1, q.2.2))) = true := by decide +kernel
theorem ab_d91 : (ab_c91.all fun q => decide (decode prog_1_method_34_code q.1 = .ok (q.2.1, q.2.2))) = true := by
  rw [ab_c91]; simp only [List.all_append, ab_d91_0, ab_d91_1, Bool.and_self]
theorem ab_d92_0 : (ab_c92_0.all fun q => decide (decode prog_1_method_35_code q.1 = .ok (q.2.1, q.2.2))) = true := by decide +kernel
theorem ab_d92_1 : (ab_c92_1.all fun q => decide (decode prog_1_method_35_code q.1 = .ok (q.2.1, q.2.2))) = true := by decide +kernel
theorem ab_d92 : (ab_c92.all fun q => decide (decode prog_1_method_35_code q.1 = .ok (q.2.1, q.2.2))) = true := by
  rw [ab_c92]; simp only [List.all_append, ab_d92_0, ab_d92_1, Bool.and_self]
theorem ab_d93_0 : (ab_c93_0.all fun q => decide (decode prog_3_method_3_code q.1 = .ok (q.2.1, q.2.2))) = true := by decide +kernel
theorem ab_d93 : (ab_c93.all fun q => decide (decode prog_3_method_3_code q.1 = .ok (q.2.1, q.2.2))) = true := by
  rw [ab_c93]; simp only [List.all_append, ab_d93_0, Bool.and_self]
theorem ab_d94_0 : (ab_c94_0.all fun q => decide (decode prog_1_method_36_code q.1 = .ok (q.2.1, q.2.2))) = true := by decide +kernel
theorem ab_d94 : (ab_c94.all fun q => decide (decode prog_1_method_36_code q.1 = .ok (q.2.1, q.2.2))) = true := by
  rw [ab_c94]; simp only [List.all_append, ab_d94_0, Bool.and_self]
theorem ab_d95_0 : (ab_c95_0.all fun q => decide (decode prog_1_method_37_code q.1 = .ok (q.2.1, q.2.2))) = true := by decide +kernel
theorem ab_d95 : (ab_c95.all fun q => decide (decode prog_1_method_37_code q.1 = .ok (q.2.1, q.2.2))) = true := by
  rw [ab_c95]; simp only [List.all_append, ab_d95_0, Bool.and_self]
theorem ab_d96_0 : (ab_c96_0.all fun q => decide (decode prog_1_method_38_code q.1 = .ok (q.2.1, q.2.2))) = true := by decide +kernel
theorem ab_d96 : (ab_c96.all fun q => decide (decode prog_1_method_38_code q.1 = .ok (q.2.1, q.2.2))) = true := by
  rw [ab_c96]; simp only [List.all_append, ab_d96_0, Bool.and_self]
theorem ab_d97_0 : (ab_c97_0.all fun q => decide (decode prog_1_method_39_code q.1 = .ok (q.2.1, q.2.2))) = true := by decide +kernel
theorem ab_d97_1 : (ab_c97_1.all fun q => decide (decode prog_1_method_39_code q.1 = .ok (q.2.1, q.2.2))) = true := by decide +kernel
theorem ab_d97 : (ab_c97.all fun q => decide (decode prog_1_method_39_code q.1 = .ok (q.2.1, q.2.2))) = true := by
  rw [ab_c97]; simp only [List.all_append, ab_d97_0, ab_d97_1, Bool.and_self]
theorem ab_d98_0 : (ab_c98_0.all fun q => decide (decode prog_2_method_13_code q.1 = .ok (q.2.1, q.2.2))) = true := by decide +kernel
theorem ab_d98 : (ab_c98.all fun q => decide (decode prog_2_method_13_code q.1 = .ok (q.2.1, q.2.2))) = true := by
  rw [ab_c98]; simp only [List.all_append, ab_d98_0, Bool.and_self]
theorem ab_d99_0 : (ab_c99_0.all fun q => decide (decode prog_1_method_66_code q.1 = .ok (q.2.1, q.2.2))) = true := by decide +kernel
theorem ab_d99 : (ab_c99.all fun q => decide (decode prog_1_method_66_code q.1 = .ok (q.2.1, q.2.2))) = true := by
  rw [ab_c99]; simp only [List.all_append, ab_d99_0, Bool.and_self]
theorem ab_d100_0 : (ab_c100_0.all fun q => decide (decode prog_1_method_67_code q.1 = .ok (q.2.1, q.2.2))) = true := by decide +kernel
theorem ab_d100 : (ab_c100.all fun q => decide (decode prog_1_method_67_code q.1 = .ok (q.2.1, q.2.2))) = true := by
  rw [ab_c100]; simp only [List.all_append, ab_d100_0, Bool.and_self]
theorem ab_d101_0 : (ab_c101_0.all fun q => decide (decode prog_1_method_40_code q.1 = .ok (q.2.1, q.2.2))) = true := by decide +kernel
theorem ab_d101 : (ab_c101.all fun q => decide (decode prog_1_method_40_code q.1 = .ok (q.2.1, q.2.2))) = true := by
  rw [ab_c101]; simp only [List.all_append, ab_d101_0, Bool.and_self]
theorem ab_d102_0 : (ab_c102_0.all fun q => decide (decode prog_1_method_41_code q.1 = .ok (q.2.1, q.2.2))) = true := by decide +kernel
theorem ab_d102 : (ab_c102.all fun q => decide (decode prog_1_method_41_code q.1 = .ok (q.2.1, q.2.2))) = true := by
  rw [ab_c102]; simp only [List.all_append, ab_d102_0, Bool.and_self]
theorem ab_d103_0 : (ab_c103_0.all fun q => decide (decode prog_1_method_42_code q.1 = .ok (q.2.1, q.2.2))) = true := by decide +kernel
theorem ab_d103_1 : (ab_c103_1.all fun q => decide (decode prog_1_method_42_code q.1 = .ok (q.2.1, q.2.2))) = true := by decide +kernel
theorem ab_d103_2 : (ab_c103_2.all fun q => decide (decode prog_1_method_42_code q.1 = .ok (q.2.1, q.2.2))) = true := by decide +kernel
theorem ab_d103_3 : (ab_c103_3.all fun q => decide (decode prog_1_method_42_code q.1 = .ok (q.2.1, q.2.2))) = true := by decide +kernel
theorem ab_d103 : (ab_c103.all fun q => decide (decode prog_1_method_42_code q.1 = .ok (q.2.1, q.2.2))) = true := by
  rw [ab_c103]; simp only [List.all_append, ab_d103_0, ab_d103_1, ab_d103_2, ab_d103_3, Bool.and_self]
theorem ab_d104_0 : (ab_c104_0.all fun q => decide (decode prog_6_method_1_code q.1 = .ok (q.2.1, q.2.2))) = true := by decide +kernel
theorem ab_d104 : (ab_c104.all fun q => decide (decode prog_6_method_1_code q.1 = .ok (q.2.1, q.2.2))) = true := by
  rw [ab_c104]; simp only [List.all_append, ab_d104_0, Bool.and_self]
theorem ab_d105_0 : (ab_c105_0.all fun q => decide (decode prog_6_method_13_code q.1 = .ok (q.2.1, q.2.2))) = true := by decide +kernel
theorem ab_d105 : (ab_c105.all fun q => decide (decode prog_6_method_13_code q.1 = .ok (q.2.1, q.2.2))) = true := by
  rw [ab_c105]; simp only [List.all_append, ab_d105_0, Bool.and_self]
theorem ab_d106_0 : (ab_c106_0.all fun q => decide (decode prog_6_method_10_code q.1 = .ok (q.2.1, q.2.2))) = true := by decide +kernel
theorem ab_d106 : (ab_c106.all fun q => decide (decode prog_6_method_10_code q.1 = .ok (q.2.1, q.2.2))) = true := by
  rw [ab_c106]; simp only [List.all_append, ab_d106_0, Bool.and_self]
theorem ab_d107_0 : (ab_c107_0.all fun q => decide (decode prog_6_method_3_code q.1 = .ok (q.2.1, q.2.2))) = true := by decide +kernel
theorem ab_d107 : (ab_c107.all fun q => decide (decode prog_6_method_3_code q.1 = .ok (q.2.1, q.2.2))) = true := by
  rw [ab_c107]; simp only [List.all_append, ab_d107_0, Bool.and_self]
theorem ab_d108_0 : (ab_c108_0.all fun q => decide (decode prog_6_method_7_code q.1 = .ok (q.2.1, q.2.2))) = true := by decide +kernel
theorem ab_d108 : (ab_c108.all fun q => decide (decode prog_6_method_7_code q.1 = .ok (q.2.1, q.2.2))) = true := by
  rw [ab_c108]; simp only [List.all_append, ab_d108_0, Bool.and_self]
theorem ab_d109_0 : (ab_c109_0.all fun q => decide (decode prog_6_method_12_code q.1 = .ok (q.2.1, q.2.2))) = true := by decide +kernel
theorem ab_d109 : (ab_c109.all fun q => decide (decode prog_6_method_12_code q.1 = .ok (q.2.1, q.2.2))) = true := by
  rw [ab_c109]; simp only [List.all_append, ab_d109_0, Bool.and_self]
theorem ab_d110_0 : (ab_c110_0.all fun q => decide (decode prog_6_method_14_code q.1 = .ok (q.2.1, q.2.2))) = true := by decide +kernel
theorem ab_d110 : (ab_c110.all fun q => decide (decode prog_6_method_14_code q.1 = .ok (q.2.1, q.2.2))) = true := by
  rw [ab_c110]; simp only [List.all_append, ab_d110_0, Bool.and_self]
theorem ab_d111_0 : (ab_c111_0.all fun q => decide (decode prog_6_method_15_code q.1 = .ok (q.2.1, q.2.2))) = true := by decide +kernel
theorem ab_d111_1 : (ab_c111_1.all fun q => decide (decode prog_6_method_15_code q.1 = .ok (q.2.1, q.2.2))) = true := by decide +kernel
theorem ab_d111 : (ab_c111.all fun q => decide (decode prog_6_method_15_code q.1 = .ok (q.2.1, q.2.2))) = true := by
  rw [ab_c111]; simp only [List.all_append, ab_d111_0, ab_d111_1, Bool.and_self]
theorem ab_d112_0 : (ab_c112_0.all fun q => decide (decode prog_6_method_8_code q.1 = .ok (q.2.1, q.2.2))) = true := by decide +kernel
theorem ab_d112 : (ab_c112.all fun q => decide (decode prog_6_method_8_code q.1 = .ok (q.2.1, q.2.2))) = true := by
  rw [ab_c112]; simp only [List.all_append, ab_d112_0, Bool.and_self]
theorem ab_d113_0 : (ab_c113_0.all fun q => decide (decode prog_6_method_16_code q.1 = .ok (q.2.1, q.2.2))) = true := by decide +kernel
theorem ab_d113 : (ab_c113.all fun q => decide (decode prog_6_method_16_code q.1 = .ok (q.2.1, q.2.2))) = true := by
  rw [ab_c113]; simp only [List.all_append, ab_d113_0, Bool.and_self]
theorem ab_d114_0 : (ab_c114_0.all fun q => decide (decode prog_6_method_18_code q.1 = .ok (q.2.1, q.2.2))) = true := by decide +kernel
theorem ab_d114_1 : (ab_c114_1.all fun q => decide (decode prog_6_method_18_code q.1 = .ok (q.2.1, q.2.2))) = true := by decide +kernel
theorem ab_d114_2 : (ab_c114_2.all fun q => decide (decode prog_6_method_18_code q.1 = .ok (q.2.1, q.2.2))) = true := by decide +kernel
theorem ab_d114 : (ab_c114.all fun q => decide (decode prog_6_method_18_code q.1 = .ok (q.2.1, q.2.2))) = true := by
  rw [ab_c114]; simp only [List.all_append, ab_d114_0, ab_d114_1, ab_d114_2, Bool.and_self]
theorem ab_d115_0 : (ab_c115_0.all fun q => decide (decode prog_6_method_17_code q.1 = .ok (q.2.1, q.2.2))) = true := by decide +kernel
theorem ab_d115 : (ab_c115.all fun q => decide (decode prog_6_method_17_code q.1 = .ok (q.2.1, q.2.2))) = true := by
  rw [ab_c115]; simp only [List.all_append, ab_d115_0, Bool.and_self]
theorem ab_d116_0 : (ab_c116_0.all fun q => decide (decode prog_6_method_19_code q.1 = .ok (q.2.1, q.2.2))) = true := by decide +kernel
theorem ab_d116_1 : (ab_c116_1.all fun q => decide (decode prog_6_method_19_code q.1 = .ok (q.2.1, q.2.2))) = true := by decide +kernel
theorem ab_d116 : (ab_c116.all fun q => decide (decode prog_6_method_19_code q.1 = .ok (q.2.1, q.2.2))) = true := by
  rw [ab_c116]; simp only [List.all_append, ab_d116_0, ab_d116_1, Bool.and_self]
theorem ab_d117_0 : (ab_c117_0.all fun q => decide (decode prog_6_method_20_code q.1 = .ok (q.2.1, q.2.2))) = true := by decide +kernel
theorem ab_d117 : (ab_c117.all fun q => decide (decode prog_6_method_20_code q.1 = .ok (q.2.1, q.2.2))) = true := by
  rw [ab_c117]; simp only [List.all_append, ab_d117_0, Bool.and_self]
theorem ab_d118_0 : (ab_c118_0.all fun q => decide (decode prog_6_method_11_code q.1 = .ok (q.2.1, q.2.2))) = true := by decide +kernel
theorem ab_d118 : (ab_c118.all fun q => decide (decode prog_6_method_11_code q.1 = .ok (q.2.1, q.2.2))) = true := by
  rw [ab_c118]; simp only [List.all_append, ab_d118_0, Bool.and_self]
theorem ab_d119_0 : (ab_c119_0.all fun q => decide (decode prog_6_method_21_code q.1 = .ok (q.2.1, q.2.2))) = true := by decide +kernel
theorem ab_d119_1 : (ab_c119_1.all fun q => decide (decode prog_6_method_21_code q.1 = .ok (q.2.1, q.2.2))) = true := by decide +kernel
theorem ab_d119 : (ab_c119.all fun q => decide (decode prog_6_method_21_code q.1 = .ok (q.2.1, q.2.2))) = true := by
  rw [ab_c119]; simp only [List.all_append, ab_d119_0, ab_d119_1, Bool.and_self]
theorem ab_d120_0 : (ab_c120_0.all fun q => decide (decode prog_6_method_29_code q.1 = .ok (q.2.1, q.2.2))) = true := by decide +kernel
theorem ab_d120 : (ab_c120.all fun q => decide (decode prog_6_method_29_code q.1 = .ok (q.2.1, q.2.2))) = true := by
  rw [ab_c120]; simp only [List.all_append, ab_d120_0, Bool.and_self]
theorem ab_d121_0 : (ab_c121_0.all fun q => decide (decode prog_6_method_28_code q.1 = .ok (q.2.1, q.2.2))) = true := by decide +kernel
theorem ab_d121_1 : (ab_c121_1.all fun q => decide (decode prog_6_method_28_code q.1 = .ok (q.2.1, q.2.2))) = true := by decide +kernel
theorem ab_d121 : (ab_c121.all fun q => decide (decode prog_6_method_28_code q.1 = .ok (q.2.1, q.2.2))) = true := by
  rw [ab_c121]; simp only [List.all_append, ab_d121_0, ab_d121_1, Bool.and_self]
theorem ab_d122_0 : (ab_c122_0.all fun q => decide (decode prog_6_method_24_code q.1 = .ok (q.2.1, q.2.2))) = true := by decide +kernel
theorem ab_d122 : (ab_c122.all fun q => decide (decode prog_6_method_24_code q.1 = .ok (q.2.1, q.2.2))) = true := by
  rw [ab_c122]; simp only [List.all_append, ab_d122_0, Bool.and_self]
theorem ab_d123_0 : (ab_c123_0.all fun q => decide (decode prog_6_method_23_code q.1 = .ok (q.2.1, q.2.2))) = true := by decide +kernel
theorem ab_d123 : (ab_c123.all fun q => decide (decode prog_6_method_23_code q.1 = .ok (q.2.1, q.2.2))) = true := by
  rw [ab_c123]; simp only [List.all_append, ab_d123_0, Bool.and_self]
theorem ab_d124_0 : (ab_c124_0.all fun q => decide (decode prog_6_method_27_code q.1 = .ok (q.2.1, q.2.2))) = true := by decide +kernel
theorem ab_d124_1 : (ab_c124_1.all fun q => decide (decode prog_6_method_27_code q.1 = .ok (q.2.1, q.2.2))) = true := by decide +kernel
theorem ab_d124_2 : (ab_c124_2.all fun q => decide (decode prog_6_method_27_code q.1 = .ok (q.2.1, q.2.2))) = true := by decide +kernel
theorem ab_d124 : (ab_c124.all fun q => decide (decode prog_6_method_27_code q.1 = .ok (q.2.1, q.2.2))) = true := by
  rw [ab_c124]; simp only [List.all_append, ab_d124_0, ab_d124_1, ab_d124_2, Bool.and_self]
theorem ab_d125_0 : (ab_c125_0.all fun q => decide (decode prog_6_method_22_code q.1 = .ok (q.2.1, q.2.2))) = true := by decide +kernel
theorem ab_d125 : (ab_c125.all fun q => decide (decode prog_6_method_22_code q.1 = .ok (q.2.1, q.2.2))) = true := by
  rw [ab_c125]; simp only [List.all_append, ab_d125_0, Bool.and_self]
theorem ab_d126_0 : (ab_c126_0.all fun q => decide (decode prog_6_method_25_code q.1 = .ok (q.2.1, q.2.2))) = true := by decide +kernel
theorem ab_d126 : (ab_c126.all fun q => decide (decode prog_6_method_25_code q.1 = .ok (q.2.1, q.2.2))) = true := by
  rw [ab_c126]; simp only [List.all_append, ab_d126_0, Bool.and_self]
theorem ab_d127_0 : (ab_c127_0.all fun q => decide (decode prog_6_method_26_code q.1 = .ok (q.2.1, q.2.2))) = true := by decide +kernel
theorem ab_d127 : (ab_c127.all fun q => decide (decode prog_6_method_26_code q.1 = .ok (q.2.1, q.2.2))) = true := by
  rw [ab_c127]; simp only [List.all_append, ab_d127_0, Bool.and_self]
theorem ab_d128_0 : (ab_c128_0.all fun q => decide (decode prog_6_method_30_code q.1 = .ok (q.2.1, q.2.2))) = true := by decide +kernel
theorem ab_d128_1 : (ab_c128_1.all fun q => decide (decode prog_6_method_30_code q.1 = .ok (q.2.1, q.2.2))) = true := by decide +kernel
theorem ab_d128 : (ab_c128.all fun q => decide (decode prog_6_method_30_code q.1 = .ok (q.2.1, q.2.2))) = true := by
  rw [ab_c128]; simp only [List.all_append, ab_d128_0, ab_d128_1, Bool.and_self]
theorem ab_d129_0 : (ab_c129_0.all fun q => decide (decode prog_6_method_9_code q.1 = .ok (q.2.1, q.2.2))) = true := by decide +kernel
theorem ab_d129 : (ab_c129.all fun q => decide (decode prog_6_method_9_code q.1 = .ok (q.2.1, q.2.2))) = true := by
  rw [ab_c129]; simp only [List.all_append, ab_d129_0, Bool.and_self]
theorem ab_d130_0 : (ab_c130_0.all fun q => decide (decode prog_6_method_37_code q.1 = .ok (q.2.1, q.2.2))) = true := by decide +kernel
theorem ab_d130 : (ab_c130.all fun q => decide (decode prog_6_method_37_code q.1 = .ok (q.2.1, q.2.2))) = true := by
  rw [ab_c130]; simp only [List.all_append, ab_d130_0, Bool.and_self]
theorem ab_d131_0 : (ab_c131_0.all fun q => decide (decode prog_6_method_31_code q.1 = .ok (q.2.1, q.2.2))) = true := by decide +kernel
theorem ab_d131 : (ab_c131.all fun q => decide (decode prog_6_method_31_code q.1 = .ok (q.2.1, q.2.2))) = true := by
  rw [ab_c131]; simp only [List.all_append, ab_d131_0, Bool.and_self]
theorem ab_d132_0 : (ab_c132_0.all fun q => decide (decode prog_6_method_36_code q.1 = .ok (q.2.1, q.2.2))) = true := by decide +kernel
theorem ab_d132 : (ab_c132.all fun q => decide (decode prog_6_method_36_code q.1 = .ok (q.2.1, q.2.2))) = true := by
  rw [ab_c132]; simp only [List.all_append, ab_d132_0, Bool.and_self]
theorem ab_d133_0 : (ab_c133_0.all fun q => decide (decode prog_6_method_34_code q.1 = .ok (q.2.1, q.2.2))) = true := by decide +kernel
theorem ab_d133 : (ab_c133.all fun q => decide (decode prog_6_method_34_code q.1 = .ok (q.2.1, q.2.2))) = true := by
  rw [ab_c133]; simp only [List.all_append, ab_d133_0, Bool.and_self]
theorem ab_d134_0 : (ab_c134_0.all fun q => decide (decode prog_6_method_35_code q.1 = .ok (q.2.1, q.2.2))) = true := by decide +kernel
theorem ab_d134 : (ab_c134.all fun q => decide (decode prog_6_method_35_code q.1 = .ok (q.2.1, q.2.2))) = true := by
  rw [ab_c134]; simp only [List.all_append, ab_d134_0, Bool.and_self]
theorem ab_d135_0 : (ab_c135_0.all fun q => decide (decode prog_6_method_33_code q.1 = .ok (q.2.1, q.2.2))) = true := by decide +kernel
theorem ab_d135 : (ab_c135.all fun q => decide (decode prog_6_method_33_code q.1 = .ok (q.2.1, q.2.2))) = true := by
  rw [ab_c135]; simp only [List.all_append, ab_d135_0, Bool.and_self]
theorem ab_d136_0 : (ab_c136_0.all fun q => decide (decode prog_6_method_39_code q.1 = .ok (q.2.1, q.2.2))) = true := by decide +kernel
theorem ab_d136_1 : (ab_c136_1.all fun q => decide (decode prog_6_method_39_code q.1 = .ok (q.2.1, q.2.2))) = true := by decide +kernel
theorem ab_d136_2 : (ab_c136_2.all fun q => decide (decode prog_6_method_39_code q.1 = .ok (q.2.1, q.2.2))) = true := by decide +kernel
theorem ab_d136 : (ab_c136.all fun q => decide (decode prog_6_method_39_code q.1 = .ok (q.2.1, q.2.2))) = true := by
  rw [ab_c136]; simp only [List.all_append, ab_d136_0, ab_d136_1, ab_d136_2, Bool.and_self]
theorem ab_d137_0 : (ab_c137_0.all fun q => decide (decode prog_6_method_38_code q.1 = .ok (q.2.1, q.2.2))) = true := by decide +kernel
theorem ab_d137 : (ab_c137.all fun q => decide (decode prog_6_method_38_code q.1 = .ok (q.2.1, q.2.2))) = true := by
  rw [ab_c137]; simp only [List.all_append, ab_d137_0, Bool.and_self]
theorem ab_d138_0 : (ab_c138_0.all fun q => decide (decode prog_6_method_5_code q.1 = .ok (q.2.1, q.2.2))) = true := by decide +kernel
theorem ab_d138 : (ab_c138.all fun q => decide (decode prog_6_method_5_code q.1 = .ok (q.2.1, q.2.2))) = true := by
  rw [ab_c138]; simp only [List.all_append, ab_d138_0, Bool.and_self]
theorem ab_d139_0 : (ab_c139_0.all fun q => decide (decode prog_6_method_4_code q.1 = .ok (q.2.1, q.2.2))) = true := by decide +kernel
theorem ab_d139 : (ab_c139.all fun q => decide (decode prog_6_method_4_code q.1 = .ok (q.2.1, q.2.2))) = true := by
  rw [ab_c139]; simp only [List.all_append, ab_d139_0, Bool.and_self]
theorem ab_d140_0 : (ab_c140_0.all fun q => decide (decode prog_6_method_41_code q.1 = .ok (q.2.1, q.2.2))) = true := by decide +kernel
theorem ab_d140_1 : (ab_c140_1.all fun q => decide (decode prog_6_method_41_code q.1 = .ok (q.2.1, q.2.2))) = true := by decide +kernel
theorem ab_d140 : (ab_c140.all fun q => decide (decode prog_6_method_41_code q.1 = .ok (q.2.1, q.2.2))) = true := by
  rw [ab_c140]; simp only [List.all_append, ab_d140_0, ab_d140_1, Bool.and_self]
theorem ab_d141_0 : (ab_c141_0.all fun q => decide (decode prog_6_method_32_code q.1 = .ok (q.2.1, q.2.2))) = true := by decide +kernel
theorem ab_d141 : (ab_c141.all fun q => decide (decode prog_6_method_32_code q.1 = .ok (q.2.1, q.2.2))) = true := by
  rw [ab_c141]; simp only [List.all_append, ab_d141_0, Bool.and_self]
theorem ab_d142_0 : (ab_c142_0.all fun q => decide (decode prog_6_method_40_code q.1 = .ok (q.2.1, q.2.2))) = true := by decide +kernel
theorem ab_d142 : (ab_c142.all fun q => decide (decode prog_6_method_40_code q.1 = .ok (q.2.1, q.2.2))) = true := by
  rw [ab_c142]; simp only [List.all_append, ab_d142_0, Bool.and_self]
theorem ab_d143_0 : (ab_c143_0.all fun q => decide (decode prog_6_method_48_code q.1 = .ok (q.2.1, q.2.2))) = true := by decide +kernel
theorem ab_d143 : (ab_c143.all fun q => decide (decode prog_6_method_48_code q.1 = .ok (q.2.1, q.2.2))) = true := by
  rw [ab_c143]; simp only [List.all_append, ab_d143_0, Bool.and_self]
theorem ab_d144_0 : (ab_c144_0.all fun q => decide (decode prog_6_method_46_code q.1 = .ok (q.2.1, q.2.2))) = true := by decide +kernel
theorem ab_d144_1 : (ab_c144_1.all fun q => decide (decode prog_6_method_46_code q.1 = .ok (q.2.1, q.2.2))) = true := by decide +kernel
theorem ab_d144 : (ab_c144.all fun q => decide (decode prog_6_method_46_code q.1 = .ok (q.2.1, q.2.2))) = true := by
  rw [ab_c144]; simp only [List.all_append, ab_d144_0, ab_d144_1, Bool.and_self]
theorem ab_d145_0 : (ab_c145_0.all fun q => decide (decode prog_6_method_42_code q.1 = .ok (q.2.1, q.2.2))) = true := by decide +kernel
theorem ab_d145 : (ab_c145.all fun q => decide (decode prog_6_method_42_code q.1 = .ok (q.2.1, q.2.2))) = true := by
  rw [ab_c145]; simp only [List.all_append, ab_d145_0, Bool.and_self]
theorem ab_d146_0 : (ab_c146_0.all fun q => decide (decode prog_6_method_43_code q.1 = .ok (q.2.1, q.2.2))) = true := by decide +kernel
theorem ab_d146 : (ab_c146.all fun q => decide (decode prog_6_method_43_code q.1 = .ok (q.2.1, q.2.2))) = true := by
  rw [ab_c146]; simp only [List.all_append, ab_d146_0, Bool.and_self]
theorem ab_d147_0 : (ab_c147_0.all fun q => decide (decode prog_6_method_45_code q.1 = .ok (q.2.1, q.2.2))) = true := by decide +kernel
theorem ab_d147 : (ab_c147.all fun q => decide (decode prog_6_method_45_code q.1 = .ok (q.2.1, q.2.2))) = true := by
  rw [ab_c147]; simp only [List.all_append, ab_d147_0, Bool.and_self]
theorem ab_d148_0 : (ab_c148_0.all fun q => decide (decode prog_6_method_44_code q.1 = .ok (q.2.1, q.2.2))) = true := by decide +kernel
theorem ab_d148_1 : (ab_c148_1.all fun q => decide (decode prog_6_method_44_code q.1 = .ok (q.2.1, q.2.2))) = true := by decide +kernel
theorem ab_d148 : (ab_c148.all fun q => decide (decode prog_6_method_44_code q.1 = .ok (q.2.1, q.2.2))) = true := by
  rw [ab_c148]; simp only [List.all_append, ab_d148_0, ab_d148_1, Bool.and_self]
theorem ab_d149_0 : (ab_c149_0.all fun q => decide (decode prog_6_method_6_code q.1 = .ok (q.2.1, q.2.2))) = true := by decide +kernel
theorem ab_d149 : (ab_c149.all fun q => decide (decode prog_6_method_6_code q.1 = .ok (q.2.1, q.2.2))) = true := by
  rw [ab_c149]; simp only [List.all_append, ab_d149_0, Bool.and_self]
theorem ab_d150_0 : (ab_c150_0.all fun q => decide (decode prog_6_method_47_code q.1 = .ok (q.2.1, q.2.2))) = true := by decide +kernel
theorem ab_d150_1 : (ab_c150_1.all fun q => decide (decode prog_6_method_47_code q.1 = .ok (q.2.1, q.2.2))) = true := by decide +kernel
theorem ab_d150 : (ab_c150.all fun q => decide (decode prog_6_method_47_code q.1 = .ok (q.2.1, q.2.2))) = true := by
  rw [ab_c150]; simp only [List.all_append, ab_d150_0, ab_d150_1, Bool.and_self]
theorem ab_d151_0 : (ab_c151_0.all fun q => decide (decode prog_6_method_49_code q.1 = .ok (q.2.1, q.2.2))) = true := by decide +kernel
theorem ab_d151 : (ab_c151.all fun q => decide (decode prog_6_method_49_code q.1 = .ok (q.2.1, q.2.2))) = true := by
  rw [ab_c151]; simp only [List.all_append, ab_d151_0, Bool.and_self]
theorem ab_d152_0 : (ab_c152_0.all fun q => decide (decode prog_6_method_50_code q.1 = .ok (q.2.1, q.2.2))) = true := by decide +kernel
theorem ab_d152 : (ab_c152.all fun q => decide (decode prog_6_method_50_code q.1 = .ok (q.2.1, q.2.2))) = true := by
  rw [ab_c152]; simp only [List.all_append, ab_d152_0, Bool.and_self]
theorem ab_d153_0 : (ab_c153_0.all fun q => decide (decode prog_6_method_51_code q.1 = .ok (q.2.1, q.2.2))) = true := by decide +kernel
theorem ab_d153 : (ab_c153.all fun q => decide (decode prog_6_method_51_code q.1 = .ok (q.2.1, q.2.2))) = true := by
  rw [ab_c153]; simp only [List.all_append, ab_d153_0, Bool.and_self]
theorem ab_d154_0 : (ab_c154_0.all fun q => decide (decode prog_6_method_52_code q.1 = .ok (q.2.1, q.2.2))) = true := by decide +kernel
theorem ab_d154 : (ab_c154.all fun q => decide (decode prog_6_method_52_code q.1 = .ok (q.2.1, q.2.2))) = true := by
  rw [ab_c154]; simp only [List.all_append, ab_d154_0, Bool.and_self]
theorem ab_d155_0 : (ab_c155_0.all fun q => decide (decode prog_6_method_53_code q.1 = .ok (q.2.1, q.2.2))) = true := by decide +kernel
theorem ab_d155_1 : (ab_c155_1.all fun q => decide (decode prog_6_method_53_code q.1 = .ok (q.2.1, q.2.2))) = true := by decide +kernel
theorem ab_d155 : (ab_c155.all fun q => decide (decode prog_6_method_53_code q.1 = .ok (q.2.1, q.2.2))) = true := by
  rw [ab_c155]; simp only [List.all_append, ab_d155_0, ab_d155_1, Bool.and_self]
theorem ab_d156_0 : (ab_c156_0.all fun q => decide (decode prog_6_method_54_code q.1 = .ok (q.2.1, q.2.2))) = true := by decide +kernel
theorem ab_d156_1 : (ab_c156_1.all fun q => decide (decode prog_6_method_54_code q.1 = .ok (q.2.1, q.2.2))) = true := by decide +kernel
theorem ab_d156 : (ab_c156.all fun q => decide (decode prog_6_method_54_code q.1 = .ok (q.2.1, q.2.2))) = true := by
  rw [ab_c156]; simp only [List.all_append, ab_d156_0, ab_d156_1, Bool.and_self]
theorem ab_d157_0 : (ab_c157_0.all fun q => decide (decode prog_6_method_55_code q.1 = .ok (q.2.1, q.2.2))) = true := by decide +kernel
theorem ab_d157_1 : (ab_c157_1.all fun q => decide (decode prog_6_method_55_code q.1 = .ok (q.2.1, q.2.2))) = true := by decide +kernel
theorem ab_d157_2 : (ab_c157_2.all fun q => decide (decode prog_6_method_55_code q.1 = .ok (q.2.1, q.2.2))) = true := by decide +kernel
theorem ab_d157 : (ab_c157.all fun q => decide (decode prog_6_method_55_code q.1 = .ok (q.2.1, q.2.2))) = true := by
  rw [ab_c157]; simp only [List.all_append, ab_d157_0, ab_d157_1, ab_d157_2, Bool.and_self]
theorem ab_d158_0 : (ab_c158_0.all fun q => decide (decode prog_6_method_56_code q.1 = .ok (q.2.1, q.2.2))) = true := by decide +kernel
theorem ab_d158 : (ab_c158.all fun q => decide (decode prog_6_method_56_code q.1 = .ok (q.2.1, q.2.2))) = true := by
  rw [ab_c158]; simp only [List.all_append, ab_d158_0, Bool.and_self]
theorem ab_d159_0 : (ab_c159_0.all fun q => decide (decode prog_6_method_61_code q.1 = .ok (q.2.1, q.2.2))) = true := by decide +kernel
theorem ab_d159_1 : (ab_c159_1.all fun q => decide (decode prog_6_method_61_code q.1 = .ok (q.2.1, q.2.2))) = true := by decide +kernel
theorem ab_d159 : (ab_c159.all fun q => decide (decode prog_6_method_61_code q.1 = .ok (q.2.1, q.2.2))) = true := by
  rw [ab_c159]; simp only [List.all_append, ab_d159_0, ab_d159_1, Bool.and_self]
theorem ab_d160_0 : (ab_c160_0.all fun q => decide (decode prog_6_method_60_code q.1 = .ok (q.2.1, q.2.2))) = true := by decide +kernel
theorem ab_d160 : (ab_c160.all fun q => decide (decode prog_6_method_60_code q.1 = .ok (q.2.1, q.2.2))) = true := by
  rw [ab_c160]; simp only [List.all_append, ab_d160_0, Bool.and_self]
theorem ab_d161_0 : (ab_c161_0.all fun q => decide (decode prog_6_method_57_code q.1 = .ok (q.2.1, q.2.2))) = true := by decide +kernel
theorem ab_d161 : (ab_c161.all fun q => decide (decode prog_6_method_57_code q.1 = .ok (q.2.1, q.2.2))) = true := by
  rw [ab_c161]; simp only [List.all_append, ab_d161_0, Bool.and_self]
theorem ab_d162_0 : (ab_c162_0.all fun q => decide (decode prog_6_method_58_code q.1 = .ok (q.2.1, q.2.2))) = true := by decide +kernel
theorem ab_d162_1 : (ab_c162_1.all fun q => decide (decode prog_6_method_58_code q.1 = .ok (q.2.1, q.2.2))) = true := by decide +kernel
theorem ab_d162_2 : (ab_c162_2.all fun q => decide (decode prog_6_method_58_code q.1 = .ok (q.2.1, q.2.2))) = true := by decide +kernel
theorem ab_d162 : (ab_c162.all fun q => decide (decode prog_6_method_58_code q.1 = .ok (q.2.1, q.2.2))) = true := by
  rw [ab_c162]; simp only [List.all_append, ab_d162_0, ab_d162_1, ab_d162_2, Bool.and_self]
theorem ab_d163_0 : (ab_c163_0.all fun q => decide (decode prog_6_method_59_code q.1 = .ok (q.2.1, q.2.2))) = true := by decide +kernel
theorem ab_d163 : (ab_c163.all fun q => decide (decode prog_6_method_59_code q.1 = .ok (q.2.1, q.2.2))) = true := by
  rw [ab_c163]; simp only [List.all_append, ab_d163_0, Bool.and_self]
theorem ab_d164_0 : (ab_c164_0.all fun q => decide (decode prog_6_method_62_code q.1 = .ok (q.2.1, q.2.2))) = true := by decide +kernel
theorem ab_d164_1 : (ab_c164_1.all fun q => decide (decode prog_6_method_62_code q.1 = .ok (q.2.1, q.2.2))) = true := by decide +kernel
theorem ab_d164 : (ab_c164.all fun q => decide (decode prog_6_method_62_code q.1 = .ok (q.2.1, q.2.2))) = true := by
  rw [ab_c164]; simp only [List.all_append, ab_d164_0, ab_d164_1, Bool.and_self]
theorem ab_d165_0 : (ab_c165_0.all fun q => decide (decode prog_6_method_63_code q.1 = .ok (q.2.1, q.2.2))) = true := by decide +kernel
theorem ab_d165 : (ab_c165.all fun q => decide (decode prog_6_method_63_code q.1 = .ok (q.2.1, q.2.2))) = true := by
  rw [ab_c165]; simp only [List.all_append, ab_d165_0, Bool.and_self]
theorem ab_d166_0 : (ab_c166_0.all fun q => decide (decode prog_6_method_65_code q.1 = .ok (q.2.1, q.2.2))) = true := by decide +kernel
theorem ab_d166_1 : (ab_c166_1.all fun q => decide (decode prog_6_method_65_code q.1 = .ok (q.2.1, q.2.2))) = true := by decide +kernel
theorem ab_d166 : (ab_c166.all fun q => decide (decode prog_6_method_65_code q.1 = .ok (q.2.1, q.2.2))) = true := by
  rw [ab_c166]; simp only [List.all_append, ab_d166_0, ab_d166_1, Bool.and_self]
theorem ab_d167_0 : (ab_c167_0.all fun q => decide (decode prog_6_method_64_code q.1 = .ok (q.2.1, q.2.2))) = true := by decide +kernel
theorem ab_d167_1 : (ab_c167_1.all fun q => decide (decode prog_6_method_64_code q.1 = .ok (q.2.1, q.2.2))) = true := by decide +kernel
theorem ab_d167_2 : (ab_c167_2.all fun q => decide (decode prog_6_method_64_code q.1 = .ok (q.2.1, q.2.2))) = true := by decide +kernel
theorem ab_d167 : (ab_c167.all fun q => decide (decode prog_6_method_64_code q.1 = .ok (q.2.1, q.2.2))) = true := by
  rw [ab_c167]; simp only [List.all_append, ab_d167_0, ab_d167_1, ab_d167_2, Bool.and_self]
theorem ab_d168_0 : (ab_c168_0.all fun q => decide (decode prog_6_method_68_code q.1 = .ok (q.2.1, q.2.2))) = true := by decide +kernel
theorem ab_d168_1 : (ab_c168_1.all fun q => decide (decode prog_6_method_68_code q.1 = .ok (q.2.1, q.2.2))) = true := by decide +kernel
theorem ab_d168 : (ab_c168.all fun q => decide (decode prog_6_method_68_code q.1 = .ok (q.2.1, q.2.2))) = true := by
  rw [ab_c168]; simp only [List.all_append, ab_d168_0, ab_d168_1, Bool.and_self]
theorem ab_d169_0 : (ab_c169_0.all fun q => decide (decode prog_6_method_66_code q.1 = .ok (q.2.1, q.2.2))) = true := by decide +kernel
theorem ab_d169_1 : (ab_c169_1.all fun q => decide (decode prog_6_method_66_code q.1 = .ok (q.2.1, q.2.2))) = true := by decide +kernel
theorem ab_d169 : (ab_c169.all fun q => decide (decode prog_6_method_66_code q.1 = .ok (q.2.1, q.2.2))) = true := by
  rw [ab_c169]; simp only [List.all_append, ab_d169_0, ab_d169_1, Bool.and_self]
theorem ab_d170_0 : (ab_c170_0.all fun q => decide (decode prog_6_method_67_code q.1 = .ok (q.2.1, q.2.2))) = true := by decide +kernel
theorem ab_d170_1 : (ab_c170_1.all fun q => decide (decode prog_6_method_67_code q.1 = .ok (q.2.1, q.2.2))) = true := by decide +kernel
theorem ab_d170 : (ab_c170.all fun q => decide (decode prog_6_method_67_code q.1 = .ok (q.2.1, q.2.2))) = true := by
  rw [ab_c170]; simp only [List.all_append, ab_d170_0, ab_d170_1, Bool.and_self]
theorem ab_d171_0 : (ab_c171_0.all fun q => decide (decode prog_6_method_69_code q.1 = .ok (q.2.1, q.2.2))) = true := by decide +kernel
theorem ab_d171_1 : (ab_c171_1.all fun q => decide (decode prog_6_method_69_code q.1 = .ok (q.2.1, q.2.2))) = true := by decide +kernel
theorem ab_d171 : (ab_c171.all fun q => decide (decode prog_6_method_69_code q.1 = .ok (q.2.1, q.2.2))) = true := by
  rw [ab_c171]; simp only [List.all_append, ab_d171_0, ab_d171_1, Bool.and_self]
theorem ab_d172_0 : (ab_c172_0.all fun q => decide (decode prog_6_method_70_code q.1 = .ok (q.2.1, q.2.2))) = true := by decide +kernel
theorem ab_d172 : (ab_c172.all fun q => decide (decode prog_6_method_70_code q.1 = .ok (q.2.1, q.2.2))) = true := by
  rw [ab_c172]; simp only [List.all_append, ab_d172_0, Bool.and_self]
theorem ab_d173_0 : (ab_c173_0.all fun q => decide (decode prog_6_method_71_code q.1 = .ok (q.2.1, q.2.2))) = true := by decide +kernel
theorem ab_d173_1 : (ab_c173_1.all fun q => decide (decode prog_6_method_71_code q.1 = .ok (q.2.1, q.2.2))) = true := by decide +kernel
theorem ab_d173_2 : (ab_c173_2.all fun q => decide (decode prog_6_method_71_code q.1 = .ok (q.2.1, q.2.2))) = true := by decide +kernel
theorem ab_d173 : (ab_c173.all fun q => decide (decode prog_6_method_71_code q.1 = .ok (q.2.1, q.2.2))) = true := by
  rw [ab_c173]; simp only [List.all_append, ab_d173_0, ab_d173_1, ab_d173_2, Bool.and_self]
theorem ab_d174_0 : (ab_c174_0.all fun q => decide (decode prog_6_method_74_code q.1 = .ok (q.2.1, q.2.2))) = true := by decide +kernel
theorem ab_d174_1 : (ab_c174_1.all fun q => decide (decode prog_6_method_74_code q.1 = .ok (q.2.1, q.2.2))) = true := by decide +kernel
theorem ab_d174_2 : (ab_c174_2.all fun q => decide (decode prog_6_method_74_code q.1 = .ok (q.2.1, q.2.2))) = true := by decide +kernel
theorem ab_d174 : (ab_c174.all fun q => decide (decode prog_6_method_74_code q.1 = .ok (q.2.1, q.2.2))) = true := by
  rw [ab_c174]; simp only [List.all_append, ab_d174_0, ab_d174_1, ab_d174_2, Bool.and_self]
theorem ab_d175_0 : (ab_c175_0.all fun q => decide (decode prog_6_method_73_code q.1 = .ok (q.2.1, q.2.2))) = true := by decide +kernel
theorem ab_d175 : (ab_c175.all fun q => decide (decode prog_6_method_73_code q.1 = .ok (q.2.1, q.2.2))) = true := by
  rw [ab_c175]; simp only [List.all_append, ab_d175_0, Bool.and_self]
theorem ab_d176_0 : (ab_c176_0.all fun q => decide (decode prog_6_method_72_code q.1 = .ok (q.2.1, q.2.2))) = true := by decide +kernel
theorem ab_d176 : (ab_c176.all fun q => decide (decode prog_6_method_72_code q.1 = .ok (q.2.1, q.2.2))) = true := by
  rw [ab_c176]; simp only [List.all_append, ab_d176_0, Bool.and_self]
theorem ab_d177_0 : (ab_c177_0.all fun q => decide (decode prog_6_method_76_code q.1 = .ok (q.2.1, q.2.2))) = true := by decide +kernel
theorem ab_d177 : (ab_c177.all fun q => decide (decode prog_6_method_76_code q.1 = .ok (q.2.1, q.2.2))) = true := by
  rw [ab_c177]; simp only [List.all_append, ab_d177_0, Bool.and_self]
theorem ab_d178_0 : (ab_c178_0.all fun q => decide (decode prog_6_method_75_code q.1 = .ok (q.2.1, q.2.2))) = true := by decide +kernel
theorem ab_d178 : (ab_c178.all fun q => decide (decode prog_6_method_75_code q.1 = .ok (q.2.1, q.2.2))) = true := by
  rw [ab_c178]; simp only [List.all_append, ab_d178_0, Bool.and_self]
theorem ab_d179_0 : (ab_c179_0.all fun q => decide (decode prog_6_method_77_code q.1 = .ok (q.2.1, q.2.2))) = true := by decide +kernel
theorem ab_d179_1 : (ab_c179_1.all fun q => decide (decode prog_6_method_77_code q.1 = .ok (q.2.1, q.2.2))) = true := by decide +kernel
theorem ab_d179 : (ab_c179.all fun q => decide (decode prog_6_method_77_code q.1 = .ok (q.2.1, q.2.2))) = true := by
  rw [ab_c179]; simp only [List.all_append, ab_d179_0, ab_d179_1, Bool.and_self]
theorem ab_d180_0 : (ab_c180_0.all fun q => decide (decode prog_6_method_78_code q.1 = .ok (q.2.1, q.2.2))) = true := by decide +kernel
theorem ab_d180_1 : (ab_c180_1.all fun q => decide (decode prog_6_method_78_code q.1 = .ok (q.2.1, q.2.2))) = true := by decide +kernel
theorem ab_d180 : (ab_c180.all fun q => decide (decode prog_6_method_78_code q.1 = .ok (q.2.1, q.2.2))) = true := by
  rw [ab_c180]; simp only [List.all_append, ab_d180_0, ab_d180_1, Bool.and_self]
theorem ab_d181_0 : (ab_c181_0.all fun q => decide (decode prog_6_method_79_code q.1 = .ok (q.2.1, q.2.2))) = true := by decide +kernel
theorem ab_d181 : (ab_c181.all fun q => decide (decode prog_6_method_79_code q.1 = .ok (q.2.1, q.2.2))) = true := by
  rw [ab_c181]; simp only [List.all_append, ab_d181_0, Bool.and_self]
theorem ab_d182_0 : (ab_c182_0.all fun q => decide (decode prog_6_method_80_code q.1 = .ok (q.2.1, q.2.2))) = true := by decide +kernel
theorem ab_d182 : (ab_c182.all fun q => decide (decode prog_6_method_80_code q.1 = .ok (q.2.1, q.2.2))) = true := by
  rw [ab_c182]; simp only [List.all_append, ab_d182_0, Bool.and_self]
theorem ab_d183_0 : (ab_c183_0.all fun q => decide (decode prog_6_method_81_code q.1 = .ok (q.2.1, q.2.2))) = true := by decide +kernel
theorem ab_d183 : (ab_c183.all fun q => decide (decode prog_6_method_81_code q.1 = .ok (q.2.1, q.2.2))) = true := by
  rw [ab_c183]; simp only [List.all_append, ab_d183_0, Bool.and_self]
theorem ab_d184_0 : (ab_c184_0.all fun q => decide (decode prog_6_method_85_code q.1 = .ok (q.2.1, q.2.2))) = true := by decide +kernel
theorem ab_d184_1 : (ab_c184_1.all fun q => decide (decode prog_6_method_85_code q.1 = .ok (q.2.1, q.2.2))) = true := by decide +kernel
theorem ab_d184 : (ab_c184.all fun q => decide (decode prog_6_method_85_code q.1 = .ok (q.2.1, q.2.2))) = true := by
  rw [ab_c184]; simp only [List.all_append, ab_d184_0, ab_d184_1, Bool.and_self]
theorem ab_d185_0 : (ab_c185_0.all fun q => decide (decode prog_6_method_84_code q.1 = .ok (q.2.1, q.2.2))) = true := by decide +kernel
theorem ab_d185 : (ab_c185.all fun q => decide (decode prog_6_method_84_code q.1 = .ok (q.2.1, q.2.2))) = true := by
  rw [ab_c185]; simp only [List.all_append, ab_d185_0, Bool.and_self]
theorem ab_d186_0 : (ab_c186_0.all fun q => decide (decode prog_6_method_83_code q.1 = .ok (q.2.1, q.2.2))) = true := by decide +kernel
theorem ab_d186 : (ab_c186.all fun q => decide (decode prog_6_method_83_code q.1 = .ok (q.2.1, q.2.2))) = true := by
  rw [ab_c186]; simp only [List.all_append, ab_d186_0, Bool.and_self]
theorem ab_d187_0 : (ab_c187_0.all fun q => decide (decode prog_6_method_82_code q.1 = .ok (q.2.1, q.2.2))) = true := by decide +kernel
theorem ab_d187 : (ab_c187.all fun q => decide (decode prog_6_method_82_code q.1 = .ok (q.2.1, q.2.2))) = true := by
  rw [ab_c187]; simp only [List.all_append, ab_d187_0, Bool.and_self]
theorem ab_d188_0 : (ab_c188_0.all fun q => decide (decode prog_6_method_86_code q.1 = .ok (q.2.1, q.2.2))) = true := by decide +kernel
theorem ab_d188 : (ab_c188.all fun q => decide (decode prog_6_method_86_code q.1 = .ok (q.2.1, q.2.2))) = true := by
  rw [ab_c188]; simp only [List.all_append, ab_d188_0, Bool.and_self]
theorem ab_d189_0 : (ab_c189_0.all fun q => decide (decode prog_6_method_87_code q.1 = .ok (q.2.1, q.2.2))) = true := by decide +kernel
theorem ab_d189 : (ab_c189.all fun q => decide (decode prog_6_method_87_code q.1 = .ok (q.2.1, q.2.2))) = true := by
  rw [ab_c189]; simp only [List.all_append, ab_d189_0, Bool.and_self]
theorem ab_d190_0 : (ab_c190_0.all fun q => decide (decode prog_6_method_89_code q.1 = .ok (q.2.1, q.2.2))) = true := by decide +kernel
theorem ab_d190_1 : (ab_c190_1.all fun q => decide (decode prog_6_method_89_code q.1 = .ok (q.2.1, q.2.2))) = true := by decide +kernel
theorem ab_d190_2 : (ab_c190_2.all fun q => decide (decode prog_6_method_89_code q.1 = .ok (q.2.1, q.2.2))) = true := by decide +kernel
theorem ab_d190_3 : (ab_c190_3.all fun q => decide (decode prog_6_method_89_code q.1 = .ok (q.2.1, q.2.2))) = true := by decide +kernel
theorem ab_d190 : (ab_c190.all fun q => decide (decode prog_6_method_89_code q.1 = .ok (q.2.1, q.2.2))) = true := by
  rw [ab_c190]; simp only [List.all_append, ab_d190_0, ab_d190_1, ab_d190_2, ab_d190_3, Bool.and_self]
theorem ab_d191_0 : (ab_c191_0.all fun q => decide (decode prog_6_method_88_code q.1 = .ok (q.2.1, q.2.2))) = true := by decide +kernel
theorem ab_d191 : (ab_c191.all fun q => decide (decode prog_6_method_88_code q.1 = .ok (q.2.1, q.2.2))) = true := by
  rw [ab_c191]; simp only [List.all_append, ab_d191_0, Bool.and_self]
theorem ab_d192_0 : (ab_c192_0.all fun q => decide (decode code q.1 = .ok (q.2.1, q.2.2))) = true := by decide +kernel
theorem ab_d192_1 : (ab_c192_1.all fun q => decide (decode code q.1 = .ok (q.2.1, q.2.2))) = true := by decide +kernel
theorem ab_d192_2 : (ab_c192_2.all fun q => decide (decode code q.1 = .ok (q.2.1, q.2.2))) = true := by decide +kernel
theorem ab_d192_3 : (ab_c192_3.all fun q => decide (decode code q.1 = .ok (q.2.1, q.2.2))) = true := by decide +kernel
theorem ab_d192_4 : (ab_c192_4.all fun q => decide (decode code q.1 = .ok (q.2.1, q.2.2))) = true := by decide +kernel
theorem ab_d192_5 : (ab_c192_5.all fun q => decide (decode code q.1 = .ok (q.2.1, q.2.2))) = true := by decide +kernel
theorem ab_d192_6 : (ab_c192_6.all fun q => decide (decode code q.1 = .ok (q.2.1, q.2.2))) = true := by decide +kernel
theorem ab_d192_7 : (ab_c192_7.all fun q => decide (decode code q.1 = .ok (q.2.1, q.2.2))) = true := by decide +kernel
theorem ab_d192_8 : (ab_c192_8.all fun q => decide (decode code q.1 = .ok (q.2.1, q.2.2))) = true := by decide +kernel
theorem ab_d192_9 : (ab_c192_9.all fun q => decide (decode code q.1 = .ok (q.2.1, q.2.2))) = true := by decide +kernel
theorem ab_d192_10 : (ab_c192_10.all fun q => decide (decode code q.1 = .ok (q.2.1, q.2.2))) = true := by decide +kernel
theorem ab_d192_11 : (ab_c192_11.all fun q => decide (decode code q.1 = .ok (q.2.1, q.2.2))) = true := by decide +kernel
theorem ab_d192_12 : (ab_c192_12.all fun q => decide (decode code q.1 = .ok (q.2.1, q.2.2))) = true := by decide +kernel
theorem ab_d192_13 : (ab_c192_13.all fun q => decide (decode code q.1 = .ok (q.2.1, q.2.2))) = true := by decide +kernel
theorem ab_d192_14 : (ab_c192_14.all fun q => decide (decode code q.1 = .ok (q.2.1, q.2.2))) = true := by decide +kernel
theorem ab_d192_15 : (ab_c192_15.all fun q => decide (decode code q.1 = .ok (q.2.1, q.2.2))) = true := by decide +kernel
theorem ab_d192_16 : (ab_c192_16.all fun q => decide (decode code q.1 = .ok (q.2.1, q.2.2))) = true := by decide +kernel
theorem ab_d192_17 : (ab_c192_17.all fun q => decide (decode code q.1 = .ok (q.2.1, q.2.2))) = true := by decide +kernel
theorem ab_d192_18 : (ab_c192_18.all fun q => decide (decode code q.1 = .ok (q.2.1, q.2.2))) = true := by decide +kernel
theorem ab_d192_19 : (ab_c192_19.all fun q => decide (decode code q.1 = .ok (q.2.1, q.2.2))) = true := by decide +kernel
theorem ab_d192_20 : (ab_c192_20.all fun q => decide (decode code q.1 = .ok (q.2.1, q.2.2))) = true := by decide +kernel
theorem ab_d192_21 : (ab_c192_21.all fun q => decide (decode code q.1 = .ok (q.2.1, q.2.2))) = true := by decide +kernel
theorem ab_d192 : (ab_c192.all fun q => decide (decode code q.1 = .ok (q.2.1, q.2.2))) = true := by
  rw [ab_c192]; simp only [List.all_append, ab_d192_0, ab_d192_1, ab_d192_2, ab_d192_3, ab_d192_4, ab_d192_5, ab_d192_6, ab_d192_7, ab_d192_8, ab_d192_9, ab_d192_10, ab_d192_11, ab_d192_12, ab_d192_13, ab_d192_14, ab_d192_15, ab_d192_16, ab_d192_17, ab_d192_18, ab_d192_19, ab_d192_20, ab_d192_21, Bool.and_self]
end
section
/-! AN ABSTRACT MACHINE: one step of each instruction that the methods use, over a memory of typed cells (h.1: whole numbers, h.2: longs), with cells' shapes and references fixed.
Cells: 0 AbsentPost; 1 rows, 2..7; 8 rowSizes; 9 texts, 10..13; 14 textSizes; 15 kept; 16 tallies; 17 left; 18 the hours; 19 Round, 20 stops; 21 Search, 22..28; 29 the reference, 30..40; 41 + 8p Post p (0 now, 1..3 kept), its arrays behind it; 80 the letters of the kinds; 81 the script. -/
abbrev ab_H : Type := (Nat → Nat → Int32) × (Nat → Nat → Int64)
abbrev ab_R : Type := Option Value × ab_H
abbrev ab_X : Type := Nat × (Nat → Int32)
def ab_gI (h : ab_H) (k i : Nat) : Int32 := h.1 k i
def ab_gJ (h : ab_H) (k i : Nat) : Int64 := h.2 k i
def ab_sI (h : ab_H) (k i : Nat) (x : Int32) : ab_H := (fun c => if c = k then upd (h.1 k) i x else h.1 c, h.2)
def ab_sJ (h : ab_H) (k i : Nat) (x : Int64) : ab_H := (h.1, fun c => if c = k then vp_updL (h.2 k) i x else h.2 c)
def ab_cI (h : ab_H) (a sp b dp n : Nat) : ab_H := (fun c => if c = b then va_cpy (h.1 a) (h.1 b) sp dp n else h.1 c, h.2)
def ab_cJ (h : ab_H) (a sp b dp n : Nat) : ab_H := (h.1, fun c => if c = b then va_cpy (h.2 a) (h.2 b) sp dp n else h.2 c)
/-- the shape of a cell: 1, 2, 3 an array of ints, bytes, longs and its length; 4 an array of references: its length, its kind; 5 an object: its class; 6 the letters; 7 the script -/
def ab_shT : List (Nat × Nat × Nat) := [(5, 3, 0), (4, 6, 0), (1, 40, 0), (1, 40, 0), (1, 40, 0), (1, 40, 0), (1, 40, 0), (1, 40, 0), (1, 6, 0), (4, 4, 1), (2, 60, 0), (2, 60, 0), (2, 60, 0), (2, 60, 0), (1, 4, 0), (4, 3, 2), (1, 6, 0), (1, 6, 0), (1, 6, 0), (5, 1, 0), (1, 12, 0), (5, 2, 0), (1, 6, 0), (1, 6, 0), (1, 6, 0), (1, 7, 0), (1, 7, 0), (1, 7, 0), (1, 7, 0), (5, 4, 0), (1, 5280, 0), (1, 3, 0), (1, 240, 0), (1, 6, 0), (1, 240, 0), (1, 4, 0), (1, 40, 0), (1, 6, 0), (1, 6, 0), (1, 6, 0), (1, 7, 0),
  (5, 0, 0), (1, 6, 0), (1, 6, 0), (1, 6, 0), (1, 6, 0), (1, 6, 0), (1, 6, 0), (3, 40, 0), (5, 0, 0), (1, 6, 0), (1, 6, 0), (1, 6, 0), (1, 6, 0), (1, 6, 0), (1, 6, 0), (3, 40, 0), (5, 0, 0), (1, 6, 0), (1, 6, 0), (1, 6, 0), (1, 6, 0), (1, 6, 0), (1, 6, 0), (3, 40, 0), (5, 0, 0), (1, 6, 0), (1, 6, 0), (1, 6, 0), (1, 6, 0), (1, 6, 0), (1, 6, 0), (3, 40, 0)]
def ab_sh (k : Nat) : Nat × Nat × Nat := match ab_shT[k]? with
  | some q => q
  | none => if k = 80 then (6, 6, 0) else if k = 81 then (7, 0, 0) else (0, 0, 0)
/-- the cell at a place of an array of references -/
def ab_ra (k i : Nat) : Nat := if k = 1 then 2 + i else if k = 9 then 10 + i else 49 + 8 * i
/-- the cell that an object's field of references holds -/
def ab_rf (a k : Nat) : Nat := if 41 ≤ a then a + 1 + k else if a = 29 then [30, 0, 31, 32, 33, 34, 35, 36, 0, 37, 0, 0, 0, 0, 38, 39, 0, 0, 0, 0, 0, 40].getD k 0 else if a = 21 then 22 + k else if a = 19 then 20 else [1, 8, 9, 14, 41, 15, 19, 21, 17, 18, 16].getD k 0
/-- a field's kind: 0 int, 1 long, 2 a reference -/
def ab_fk (ci k : Nat) : Nat := ([[2, 2, 2, 2, 2, 2, 2, 0, 0, 0], [2, 0], [2, 2, 2, 2, 2, 2, 2, 0, 0, 0, 0, 0], [2, 2, 2, 2, 2, 2, 2, 2, 2, 2, 2, 0, 0, 1, 1], [2, 0, 2, 2, 2, 2, 2, 2, 0, 2, 0, 1, 1, 0, 2, 2, 0, 0, 0, 0, 0, 2, 0, 0, 1]].getD ci []).getD k 3
def ab_nf (ci : Nat) : Nat := [10, 2, 12, 15, 25].getD ci 0
def ab_kl (i : Nat) : Int32 := [104, 105, 102, 116, 115, 100].getD i 0
def ab_fl (o idx : Nat) : Option (Nat × Nat × Nat) := (ab_fT.find? fun q => q.1 == o && q.2.1 == idx).map fun q => q.2.2
def ab_cl (o idx : Nat) : Option (Nat × Nat × Nat × Nat × Nat × Nat × Nat) := (ab_cT.find? fun q => q.1 == o && q.2.1 == idx).map fun q => q.2.2
def ab_kj (o idx : Nat) : Option (Int64 × Nat) := (ab_kT.find? fun q => q.1 == o && q.2.1 == idx).map fun q => q.2.2
def ab_ki (o idx : Nat) : Option (Int32 × Nat) := (ab_jT.find? fun q => q.1 == o && q.2.1 == idx).map fun q => q.2.2
def ab_ac (o idx : Nat) : Option Nat := (ab_aT.find? fun q => q.1 == o && q.2.1 == idx).map fun q => q.2.2
def ab_lI (lv : List Value) (i : Nat) (k : Int32 → Option ab_R) : Option ab_R := match lv[i]? with
  | some (.int x) => k x
  | _ => none
def ab_lJ (lv : List Value) (i : Nat) (k : Int64 → Option ab_R) : Option ab_R := match lv[i]? with
  | some (.long x) => k x
  | _ => none
def ab_lR (lv : List Value) (i : Nat) (k : Nat → Option ab_R) : Option ab_R := match lv[i]? with
  | some (.ref x) => k x
  | _ => none
/-- where the longs of each method stand among its locals -/
def ab_LT : List (Nat × List Nat) := [(15, [3]), (52, [1]), (55, [1]), (90, [1, 3, 5, 7, 10]), (91, [4, 6]), (92, [3]), (103, [1]), (107, [0, 2, 4]), (116, [2]), (178, [1, 3, 5, 7, 9]), (179, [4, 6]), (180, [3]), (191, [1])]
def ab_Lg (M : Nat) : List Nat := match ab_LT.find? (fun q => q.1 == M) with
  | some q => q.2
  | none => []
/-- no long's second half is at i -/
def ab_nl (lg : List Nat) (i : Nat) : Bool := match i with
  | 0 => true
  | j + 1 => !(lg.contains j)
def ab_s1 (lg : List Nat) (lv : List Value) (i : Nat) (v : Value) (k : List Value → Option ab_R) : Option ab_R := if ab_nl lg i = true ∧ i < lv.length then k (lv.set i v) else none
def ab_s2 (lg : List Nat) (lv : List Value) (i : Nat) (v : Value) (k : List Value → Option ab_R) : Option ab_R := if (ab_nl lg i = true ∧ lg.contains i = true) ∧ i + 1 < lv.length then k ((lv.set i v).set (i + 1) .null) else none
def ab_okL (lg : List Nat) (lv : List Value) : Bool := lv.zipIdx.all (fun q => q.1.category != 2 || lg.contains q.2)
def ab_1I (st : List Value) (k : Int32 → List Value → Option ab_R) : Option ab_R := match st with
  | .int x :: r => k x r
  | _ => none
def ab_2I (st : List Value) (k : Int32 → Int32 → List Value → Option ab_R) : Option ab_R := match st with
  | .int y :: .int x :: r => k x y r
  | _ => none
def ab_1J (st : List Value) (k : Int64 → List Value → Option ab_R) : Option ab_R := match st with
  | .long x :: r => k x r
  | _ => none
def ab_2J (st : List Value) (k : Int64 → Int64 → List Value → Option ab_R) : Option ab_R := match st with
  | .long y :: .long x :: r => k x y r
  | _ => none
def ab_JI (st : List Value) (k : Int64 → Int32 → List Value → Option ab_R) : Option ab_R := match st with
  | .int y :: .long x :: r => k x y r
  | _ => none
def ab_1R (st : List Value) (k : Nat → List Value → Option ab_R) : Option ab_R := match st with
  | .ref a :: r => k a r
  | _ => none
/-- an array and an index -/
def ab_RI (st : List Value) (k : Nat → Int32 → List Value → Option ab_R) : Option ab_R := match st with
  | .int i :: .ref a :: r => k a i r
  | _ => none
def ab_RII (st : List Value) (k : Nat → Int32 → Int32 → List Value → Option ab_R) : Option ab_R := match st with
  | .int x :: .int i :: .ref a :: r => k a i x r
  | _ => none
def ab_RIJ (st : List Value) (k : Nat → Int32 → Int64 → List Value → Option ab_R) : Option ab_R := match st with
  | .long x :: .int i :: .ref a :: r => k a i x r
  | _ => none
def ab_5 (st : List Value) (k : Nat → Int32 → Nat → Int32 → Int32 → List Value → Option ab_R) : Option ab_R := match st with
  | .int n :: .int dp :: .ref b :: .int sp :: .ref a :: r => k a sp b dp n r
  | _ => none
def ab_1V (st : List Value) (k : Value → List Value → Option ab_R) : Option ab_R := match st with
  | v :: r => if v.category = 1 then k v r else none
  | _ => none
def ab_2V (st : List Value) (k : Value → Value → List Value → Option ab_R) : Option ab_R := match st with
  | v :: w :: r => if v.category = 1 ∧ w.category = 1 then k v w r else none
  | _ => none
def ab_tg (pc : Nat) (off : Int) (k : Nat → Option ab_R) : Option ab_R := if 0 ≤ (pc : Int) + off then k ((pc : Int) + off).toNat else none
def ab_in (t a : Nat) (i : Int32) : Prop := (ab_sh a).1 = t ∧ vp_in i (ab_sh a).2.1
theorem ab_vpin_dec (i : Int32) (n : Nat) : (¬ (i < 0 ∨ n ≤ i.toNatClampNeg)) = vp_in i n := rfl
def ab_inB (t a : Nat) (i : Int32) : Bool := (ab_sh a).1 == t && !(decide (i < 0) || decide ((ab_sh a).2.1 ≤ i.toNatClampNeg))
theorem ab_inB_iff {t a : Nat} {i : Int32} : ab_inB t a i = true ↔ ab_in t a i := by
  simp [ab_inB, ab_in, vp_in]
def ab_ld (X : ab_X) (h : ab_H) (a : Nat) (i : Int32) (k : Int32 → Option ab_R) : Option ab_R :=
  if ab_inB 1 a i = true then k (ab_gI h a i.toNatClampNeg)
  else if ab_inB 6 a i = true then k (ab_kl i.toNatClampNeg)
  else if ((ab_sh a).1 == 7 && !(decide (i < 0) || decide (X.1 ≤ i.toNatClampNeg))) = true then k (X.2 i.toNatClampNeg) else none
def ab_lb (h : ab_H) (a : Nat) (i : Int32) (k : Int32 → Option ab_R) : Option ab_R := if ab_inB 2 a i = true then k (ab_gI h a i.toNatClampNeg) else none
def ab_lj (h : ab_H) (a : Nat) (i : Int32) (k : Int64 → Option ab_R) : Option ab_R := if ab_inB 3 a i = true then k (ab_gJ h a i.toNatClampNeg) else none
def ab_la (a : Nat) (i : Int32) (k : Nat → Option ab_R) : Option ab_R := if ab_inB 4 a i = true then k (ab_ra a i.toNatClampNeg) else none
def ab_sd (h : ab_H) (a : Nat) (i x : Int32) (k : ab_H → Option ab_R) : Option ab_R := if ab_inB 1 a i = true then k (ab_sI h a i.toNatClampNeg x) else none
def ab_sb (h : ab_H) (a : Nat) (i x : Int32) (k : ab_H → Option ab_R) : Option ab_R := if ab_inB 2 a i = true then k (ab_sI h a i.toNatClampNeg x.toInt8.toInt32) else none
def ab_sj (h : ab_H) (a : Nat) (i : Int32) (x : Int64) (k : ab_H → Option ab_R) : Option ab_R := if ab_inB 3 a i = true then k (ab_sJ h a i.toNatClampNeg x) else none
def ab_ln (X : ab_X) (a : Nat) (k : Int32 → Option ab_R) : Option ab_R :=
  if (ab_sh a).1 = 1 ∨ (ab_sh a).1 = 2 then k (Int32.ofNat (ab_sh a).2.1) else if (ab_sh a).1 = 6 then k 6 else if (ab_sh a).1 = 7 then k (Int32.ofNat X.1) else none
def ab_ob (a ci : Nat) (k : Option ab_R) : Option ab_R := if (ab_sh a).1 = 5 ∧ (ab_sh a).2.1 = ci then k else none
def ab_fv (h : ab_H) (a ci j : Nat) : Value := match ab_fk ci j with
  | 0 => .int (ab_gI h a j)
  | 1 => .long (ab_gJ h a j)
  | _ => .ref (ab_rf a j)
def ab_pf (h : ab_H) (ci j : Nat) (st : List Value) (k : ab_H → List Value → Option ab_R) : Option ab_R := match ab_fk ci j with
  | 0 => match st with
    | .int x :: .ref a :: r => ab_ob a ci (k (ab_sI h a j x) r)
    | _ => none
  | 1 => match st with
    | .long x :: .ref a :: r => ab_ob a ci (k (ab_sJ h a j x) r)
    | _ => none
  | _ => none
def ab_dI (y : Int32) (k : Option ab_R) : Option ab_R := if y = 0 then none else k
def ab_dJ (y : Int64) (k : Option ab_R) : Option ab_R := if y = 0 then none else k
def ab_bI (c : Jvm.ClassFile.Cond) (x y : Int32) (k1 k2 : Option ab_R) : Option ab_R := match c with
  | .eq => if x = y then k1 else k2
  | .ne => if x = y then k2 else k1
  | .lt => if x < y then k1 else k2
  | .ge => if x < y then k2 else k1
  | .gt => if y < x then k1 else k2
  | .le => if y < x then k2 else k1
def ab_ts (pc : Nat) (x : Int32) (dflt lo hi : Int) (offs : Array Int) (k : Nat → Option ab_R) : Option ab_R := if x.toInt < lo ∨ hi < x.toInt then ab_tg pc dflt k else match offs[(x.toInt - lo).toNat]? with
  | some off => ab_tg pc off k
  | none => none
/-- arraycopy: two arrays of ints, or of longs -/
def ab_cp (h : ab_H) (a : Nat) (sp : Int32) (b : Nat) (dp n : Int32) (k : ab_H → Option ab_R) : Option ab_R :=
  if sp < 0 ∨ dp < 0 ∨ n < 0 ∨ (ab_sh a).2.1 < sp.toNatClampNeg + n.toNatClampNeg ∨ (ab_sh b).2.1 < dp.toNatClampNeg + n.toNatClampNeg then none
  else if (ab_sh a).1 = 1 ∧ (ab_sh b).1 = 1 then k (ab_cI h a sp.toNatClampNeg b dp.toNatClampNeg n.toNatClampNeg)
  else if (ab_sh a).1 = 3 ∧ (ab_sh b).1 = 3 then k (ab_cJ h a sp.toNatClampNeg b dp.toNatClampNeg n.toNatClampNeg) else none
def ab_ws (st : List Value) : Nat := (st.map fun v => v.category).sum
def ab_max (x y : Int32) : Int32 := if x < y then y else x
def ab_min (x y : Int32) : Int32 := if y < x then y else x
def ab_abs (x : Int32) : Int32 := if 0 ≤ x then x else 0 - x
/-- an answer goes onto the stack -/
def ab_pu (v : Option Value) (st : List Value) : List Value := v.toList ++ st
def ab_cal (st : List Value) (n : Nat) (k : List Value → List Value → Option ab_R) : Option ab_R := if n ≤ st.length ∧ ab_ws (st.drop n) ≤ 8 then k (st.take n).reverse (st.drop n) else none
def ab_rk (rt : Option FieldType) (x : Int32) : Bool := match rt with
  | some .int => true
  | some .boolean => decide (x = 0) || decide (x = 1)
  | _ => false
/-- the locals at a method's start -/
def ab_la0 : List Value → List Value
  | [] => []
  | v :: t => if v.category = 2 then v :: .null :: ab_la0 t else v :: ab_la0 t
def ab_en (n : Nat) (as : List Value) : List Value := ab_la0 as ++ List.replicate (n - (ab_la0 as).length) .null
def ab_ml (M : Nat) : Nat := match ab_mt[M]? with
  | some e => e.2.2.1
  | none => 0
def ab_mo (M : Nat) : Nat := match ab_mt[M]? with
  | some e => e.2.2.2.2.1
  | none => 0
/-- one instruction; kn: go on; kc: a call -/
def ab_st (X : ab_X) (o : Nat) (rt : Option FieldType) (lg : List Nat) (ins : Instr) (pc : Nat) (lv st : List Value) (h : ab_H) (kn : Nat → List Value → List Value → ab_H → Option ab_R) (kc : Nat → List Value → ab_H → (ab_R → Option ab_R) → Option ab_R) : Option ab_R := match ins with
  | .iconst n => kn (pc + 1) lv (.int (Int32.ofInt n) :: st) h
  | .bipush n => kn (pc + 2) lv (.int (Int8.ofInt n).toInt32 :: st) h
  | .sipush n => kn (pc + 3) lv (.int (Int16.ofInt n).toInt32 :: st) h
  | .lconst n => kn (pc + 1) lv (.long (Int64.ofNat (n : Nat)) :: st) h
  | .ldc2_w i => (ab_kj o i).bind (fun q => kn (pc + 3) lv (.long q.1 :: st) h)
  | .ldc_w i => (ab_ki o i).bind (fun q => kn (pc + 3) lv (.int q.1 :: st) h)
  | .iload_n i => ab_lI lv i (fun x => kn (pc + 1) lv (.int x :: st) h)
  | .iload i => ab_lI lv i (fun x => kn (pc + 2) lv (.int x :: st) h)
  | .lload_n i => ab_lJ lv i (fun x => kn (pc + 1) lv (.long x :: st) h)
  | .lload i => ab_lJ lv i (fun x => kn (pc + 2) lv (.long x :: st) h)
  | .aload_n i => ab_lR lv i (fun x => kn (pc + 1) lv (.ref x :: st) h)
  | .aload i => ab_lR lv i (fun x => kn (pc + 2) lv (.ref x :: st) h)
  | .istore_n i => ab_1I st (fun x r => ab_s1 lg lv i (.int x) (fun lv => kn (pc + 1) lv r h))
  | .istore i => ab_1I st (fun x r => ab_s1 lg lv i (.int x) (fun lv => kn (pc + 2) lv r h))
  | .lstore_n i => ab_1J st (fun x r => ab_s2 lg lv i (.long x) (fun lv => kn (pc + 1) lv r h))
  | .lstore i => ab_1J st (fun x r => ab_s2 lg lv i (.long x) (fun lv => kn (pc + 2) lv r h))
  | .astore_n i => ab_1R st (fun x r => ab_s1 lg lv i (.ref x) (fun lv => kn (pc + 1) lv r h))
  | .astore i => ab_1R st (fun x r => ab_s1 lg lv i (.ref x) (fun lv => kn (pc + 2) lv r h))
  | .iinc i n => ab_lI lv i (fun x => ab_s1 lg lv i (.int (x + Int32.ofInt n)) (fun lv => kn (pc + 3) lv st h))
  | .iadd => ab_2I st (fun x y r => kn (pc + 1) lv (.int (x + y) :: r) h)
  | .isub => ab_2I st (fun x y r => kn (pc + 1) lv (.int (x - y) :: r) h)
  | .imul => ab_2I st (fun x y r => kn (pc + 1) lv (.int (x * y) :: r) h)
  | .iand => ab_2I st (fun x y r => kn (pc + 1) lv (.int (x &&& y) :: r) h)
  | .ior => ab_2I st (fun x y r => kn (pc + 1) lv (.int (x ||| y) :: r) h)
  | .ixor => ab_2I st (fun x y r => kn (pc + 1) lv (.int (x ^^^ y) :: r) h)
  | .ishl => ab_2I st (fun x y r => kn (pc + 1) lv (.int (x <<< (y &&& 31)) :: r) h)
  | .ishr => ab_2I st (fun x y r => kn (pc + 1) lv (.int (x >>> (y &&& 31)) :: r) h)
  | .iushr => ab_2I st (fun x y r => kn (pc + 1) lv (.int (x.toUInt32 >>> (y.toUInt32 &&& Int32.toUInt32 31)).toInt32 :: r) h)
  | .idiv => ab_2I st (fun x y r => ab_dI y (kn (pc + 1) lv (.int (x / y) :: r) h))
  | .irem => ab_2I st (fun x y r => ab_dI y (kn (pc + 1) lv (.int (x - x / y * y) :: r) h))
  | .ineg => ab_1I st (fun x r => kn (pc + 1) lv (.int (-x) :: r) h)
  | .i2l => ab_1I st (fun x r => kn (pc + 1) lv (.long x.toInt64 :: r) h)
  | .i2b => ab_1I st (fun x r => kn (pc + 1) lv (.int x.toInt8.toInt32 :: r) h)
  | .l2i => ab_1J st (fun x r => kn (pc + 1) lv (.int x.toInt32 :: r) h)
  | .ladd => ab_2J st (fun x y r => kn (pc + 1) lv (.long (x + y) :: r) h)
  | .lmul => ab_2J st (fun x y r => kn (pc + 1) lv (.long (x * y) :: r) h)
  | .land => ab_2J st (fun x y r => kn (pc + 1) lv (.long (x &&& y) :: r) h)
  | .lor => ab_2J st (fun x y r => kn (pc + 1) lv (.long (x ||| y) :: r) h)
  | .ldiv => ab_2J st (fun x y r => ab_dJ y (kn (pc + 1) lv (.long (x / y) :: r) h))
  | .lrem => ab_2J st (fun x y r => ab_dJ y (kn (pc + 1) lv (.long (x - x / y * y) :: r) h))
  | .lneg => ab_1J st (fun x r => kn (pc + 1) lv (.long (-x) :: r) h)
  | .lcmp => ab_2J st (fun x y r => kn (pc + 1) lv (.int (lg_cmp x y) :: r) h)
  | .lshl => ab_JI st (fun x y r => kn (pc + 1) lv (.long (x <<< (y.toInt64 &&& 63)) :: r) h)
  | .lshr => ab_JI st (fun x y r => kn (pc + 1) lv (.long (x >>> (y.toInt64 &&& 63)) :: r) h)
  | .dup => ab_1V st (fun v r => kn (pc + 1) lv (v :: v :: r) h)
  | .pop => ab_1V st (fun _ r => kn (pc + 1) lv r h)
  | .dup_x1 => ab_2V st (fun v w r => kn (pc + 1) lv (v :: w :: v :: r) h)
  | .dup2 => ab_2V st (fun v w r => kn (pc + 1) lv (v :: w :: v :: w :: r) h)
  | .ifCond c off => ab_tg pc off (fun t => ab_1I st (fun x r => ab_bI c x 0 (kn t lv r h) (kn (pc + 3) lv r h)))
  | .if_icmp c off => ab_tg pc off (fun t => ab_2I st (fun x y r => ab_bI c x y (kn t lv r h) (kn (pc + 3) lv r h)))
  | .goto off => ab_tg pc off (fun t => kn t lv st h)
  | .tableswitch dflt lo hi offs => ab_1I st (fun x r => ab_ts pc x dflt lo hi offs (fun t => kn t lv r h))
  | .getfield i => (ab_fl o i).bind (fun q => ab_1R st (fun a r => ab_ob a q.1 (kn (pc + 3) lv (ab_fv h a q.1 q.2.1 :: r) h)))
  | .putfield i => (ab_fl o i).bind (fun q => ab_pf h q.1 q.2.1 st (fun h r => kn (pc + 3) lv r h))
  | .getstatic i => if ab_zT.1 = o ∧ ab_zT.2.1 = i then kn (pc + 3) lv (.ref 80 :: st) h else none
  | .iaload => ab_RI st (fun a i r => ab_ld X h a i (fun x => kn (pc + 1) lv (.int x :: r) h))
  | .baload => ab_RI st (fun a i r => ab_lb h a i (fun x => kn (pc + 1) lv (.int x :: r) h))
  | .laload => ab_RI st (fun a i r => ab_lj h a i (fun x => kn (pc + 1) lv (.long x :: r) h))
  | .aaload => ab_RI st (fun a i r => ab_la a i (fun x => kn (pc + 1) lv (.ref x :: r) h))
  | .iastore => ab_RII st (fun a i x r => ab_sd h a i x (fun h => kn (pc + 1) lv r h))
  | .bastore => ab_RII st (fun a i x r => ab_sb h a i x (fun h => kn (pc + 1) lv r h))
  | .lastore => ab_RIJ st (fun a i x r => ab_sj h a i x (fun h => kn (pc + 1) lv r h))
  | .arraylength => ab_1R st (fun a r => ab_ln X a (fun x => kn (pc + 1) lv (.int x :: r) h))
  | .invokestatic i => if (ab_ac o i).isSome = true then ab_5 st (fun a sp b dp n r => if ab_ws r ≤ 8 then ab_cp h a sp b dp n (fun h => kn (pc + 3) lv r h) else none)
    else (ab_cl o i).bind (fun q => if q.2.2.1 = 0 ∨ q.2.2.1 = 1 then ab_cal st q.2.1 (fun as r => if (ab_la0 as).length ≤ ab_ml q.1 ∧ ab_okL (ab_Lg q.1) (ab_la0 as) = true then kc q.1 as h (fun z => kn (pc + 3) lv (ab_pu z.1 r) z.2) else none)
      else if q.2.2.1 = 3 then ab_2I st (fun x y r => if ab_ws r ≤ 8 then kn (pc + 3) lv (.int (ab_max x y) :: r) h else none)
      else if q.2.2.1 = 4 then ab_2I st (fun x y r => if ab_ws r ≤ 8 then kn (pc + 3) lv (.int (ab_min x y) :: r) h else none)
      else if q.2.2.1 = 5 then ab_1I st (fun x r => if ab_ws r ≤ 8 then kn (pc + 3) lv (.int (ab_abs x) :: r) h else none) else none)
  | .invokevirtual i => (ab_cl o i).bind (fun q => if q.2.2.1 = 2 then ab_cal st q.2.1 (fun as r => ab_1R r (fun b r => if (ab_la0 (.ref b :: as)).length ≤ ab_ml q.1 ∧ ab_okL (ab_Lg q.1) (ab_la0 (.ref b :: as)) = true then ab_ob b (ab_mo q.1) (kc q.1 (.ref b :: as) h (fun z => kn (pc + 3) lv (ab_pu z.1 r) z.2)) else none)) else none)
  | .ireturn => ab_1I st (fun x r => if r = [] ∧ ab_rk rt x = true then some (some (.int x), h) else none)
  | .lreturn => ab_1J st (fun x r => if r = [] ∧ rt = some .long then some (some (.long x), h) else none)
  | .return_ => if st = [] ∧ rt = none then some (none, h) else none
  | _ => none
/-- what stands at pc in method M: its class number, return type, instruction -/
def ab_lk (M pc : Nat) : Option (Nat × Option FieldType × Instr) := match ab_mt[M]? with
  | some e => match e.2.2.2.2.2.find? (fun q => q.1 == pc) with
    | some q => some (e.2.2.2.2.1, e.2.2.2.1, q.2.1)
    | none => none
  | none => none
def ab_sp (X : ab_X) (M pc : Nat) (lv st : List Value) (h : ab_H) (kn : Nat → List Value → List Value → ab_H → Option ab_R) (kc : Nat → List Value → ab_H → (ab_R → Option ab_R) → Option ab_R) : Option ab_R := match ab_lk M pc with
  | some q => ab_st X q.1 q.2.1 (ab_Lg M) q.2.2 pc lv st h kn kc
  | none => none
/-- n steps at most, at most d calls deep -/
def ab_xF (X : ab_X) : Nat → Nat → Nat → Nat → List Value → List Value → ab_H → Option ab_R
  | 0, _, _, _, _, _, _ => none
  | n + 1, d, M, pc, lv, st, h => ab_sp X M pc lv st h (fun pc lv st h => ab_xF X n d M pc lv st h) (fun m as h k => match d with
    | 0 => none
    | d + 1 => (ab_xF X n d m 0 (ab_en (ab_ml m) as) [] h).bind k)
end
section
/-! the abstract machine: a step is nothing, a next state, an answer, or a call; more steps change no answer; the run without a count of steps, and its equations -/
abbrev ab_KN : Type := Nat → List Value → List Value → ab_H → Option ab_R
abbrev ab_KC : Type := Nat → List Value → ab_H → (ab_R → Option ab_R) → Option ab_R
def ab_Sh (f : ab_KN → ab_KC → Option ab_R) : Prop :=
  (∀ kn kc, f kn kc = none) ∨ (∃ pc lv st h, ∀ kn kc, f kn kc = kn pc lv st h) ∨ (∃ r, ∀ kn kc, f kn kc = some r) ∨ (∃ m as h pc lv st, ∀ kn kc, f kn kc = kc m as h (fun z => kn pc lv (ab_pu z.1 st) z.2))
theorem ab_Sh_0 : ab_Sh (fun _ _ => none) := Or.inl fun _ _ => rfl
theorem ab_Sh_n {pc : Nat} {lv st : List Value} {h : ab_H} : ab_Sh (fun kn _ => kn pc lv st h) := Or.inr (Or.inl ⟨pc, lv, st, h, fun _ _ => rfl⟩)
theorem ab_Sh_r {r : ab_R} : ab_Sh (fun _ _ => some r) := Or.inr (Or.inr (Or.inl ⟨r, fun _ _ => rfl⟩))
theorem ab_Sh_c {m : Nat} {as : List Value} {h : ab_H} {pc : Nat} {lv st : List Value} : ab_Sh (fun kn kc => kc m as h (fun z => kn pc lv (ab_pu z.1 st) z.2)) := Or.inr (Or.inr (Or.inr ⟨m, as, h, pc, lv, st, fun _ _ => rfl⟩))
theorem ab_Sh_i {c : Prop} [Decidable c] {f g : ab_KN → ab_KC → Option ab_R} (hf : ab_Sh f) (hg : ab_Sh g) : ab_Sh (fun kn kc => if c then f kn kc else g kn kc) := by
  by_cases h : c
  · simp only [h, if_true]; exact hf
  · simp only [h, if_false]; exact hg
theorem ab_Sh_b {α : Type} {x : Option α} {g : α → ab_KN → ab_KC → Option ab_R} (hg : ∀ a, ab_Sh (g a)) : ab_Sh (fun kn kc => x.bind (fun a => g a kn kc)) := by
  cases x with
  | none => exact ab_Sh_0
  | some a => exact hg a
theorem ab_Sh_lI {lv : List Value} {i : Nat} {g : Int32 → ab_KN → ab_KC → Option ab_R} (hg : ∀ x, ab_Sh (g x)) : ab_Sh (fun kn kc => ab_lI lv i (fun x => g x kn kc)) := by
  unfold ab_lI; split
  · exact hg _
  · exact ab_Sh_0
theorem ab_Sh_lJ {lv : List Value} {i : Nat} {g : Int64 → ab_KN → ab_KC → Option ab_R} (hg : ∀ x, ab_Sh (g x)) : ab_Sh (fun kn kc => ab_lJ lv i (fun x => g x kn kc)) := by
  unfold ab_lJ; split
  · exact hg _
  · exact ab_Sh_0
theorem ab_Sh_lR {lv : List Value} {i : Nat} {g : Nat → ab_KN → ab_KC → Option ab_R} (hg : ∀ x, ab_Sh (g x)) : ab_Sh (fun kn kc => ab_lR lv i (fun x => g x kn kc)) := by
  unfold ab_lR; split
  · exact hg _
  · exact ab_Sh_0
theorem ab_Sh_s1 {lg : List Nat} {lv : List Value} {i : Nat} {v : Value} {g : List Value → ab_KN → ab_KC → Option ab_R} (hg : ∀ x, ab_Sh (g x)) : ab_Sh (fun kn kc => ab_s1 lg lv i v (fun x => g x kn kc)) := ab_Sh_i (hg _) ab_Sh_0
theorem ab_Sh_s2 {lg : List Nat} {lv : List Value} {i : Nat} {v : Value} {g : List Value → ab_KN → ab_KC → Option ab_R} (hg : ∀ x, ab_Sh (g x)) : ab_Sh (fun kn kc => ab_s2 lg lv i v (fun x => g x kn kc)) := ab_Sh_i (hg _) ab_Sh_0
theorem ab_Sh_1I {st : List Value} {g : Int32 → List Value → ab_KN → ab_KC → Option ab_R} (hg : ∀ x r, ab_Sh (g x r)) : ab_Sh (fun kn kc => ab_1I st (fun x r => g x r kn kc)) := by
  unfold ab_1I; split
  · exact hg _ _
  · exact ab_Sh_0
theorem ab_Sh_2I {st : List Value} {g : Int32 → Int32 → List Value → ab_KN → ab_KC → Option ab_R} (hg : ∀ x y r, ab_Sh (g x y r)) : ab_Sh (fun kn kc => ab_2I st (fun x y r => g x y r kn kc)) := by
  unfold ab_2I; split
  · exact hg _ _ _
  · exact ab_Sh_0
theorem ab_Sh_1J {st : List Value} {g : Int64 → List Value → ab_KN → ab_KC → Option ab_R} (hg : ∀ x r, ab_Sh (g x r)) : ab_Sh (fun kn kc => ab_1J st (fun x r => g x r kn kc)) := by
  unfold ab_1J; split
  · exact hg _ _
  · exact ab_Sh_0
theorem ab_Sh_2J {st : List Value} {g : Int64 → Int64 → List Value → ab_KN → ab_KC → Option ab_R} (hg : ∀ x y r, ab_Sh (g x y r)) : ab_Sh (fun kn kc => ab_2J st (fun x y r => g x y r kn kc)) := by
  unfold ab_2J; split
  · exact hg _ _ _
  · exact ab_Sh_0
theorem ab_Sh_JI {st : List Value} {g : Int64 → Int32 → List Value → ab_KN → ab_KC → Option ab_R} (hg : ∀ x y r, ab_Sh (g x y r)) : ab_Sh (fun kn kc => ab_JI st (fun x y r => g x y r kn kc)) := by
  unfold ab_JI; split
  · exact hg _ _ _
  · exact ab_Sh_0
theorem ab_Sh_1R {st : List Value} {g : Nat → List Value → ab_KN → ab_KC → Option ab_R} (hg : ∀ x r, ab_Sh (g x r)) : ab_Sh (fun kn kc => ab_1R st (fun x r => g x r kn kc)) := by
  unfold ab_1R; split
  · exact hg _ _
  · exact ab_Sh_0
theorem ab_Sh_RI {st : List Value} {g : Nat → Int32 → List Value → ab_KN → ab_KC → Option ab_R} (hg : ∀ a i r, ab_Sh (g a i r)) : ab_Sh (fun kn kc => ab_RI st (fun a i r => g a i r kn kc)) := by
  unfold ab_RI; split
  · exact hg _ _ _
  · exact ab_Sh_0
theorem ab_Sh_RII {st : List Value} {g : Nat → Int32 → Int32 → List Value → ab_KN → ab_KC → Option ab_R} (hg : ∀ a i x r, ab_Sh (g a i x r)) : ab_Sh (fun kn kc => ab_RII st (fun a i x r => g a i x r kn kc)) := by
  unfold ab_RII; split
  · exact hg _ _ _ _
  · exact ab_Sh_0
theorem ab_Sh_RIJ {st : List Value} {g : Nat → Int32 → Int64 → List Value → ab_KN → ab_KC → Option ab_R} (hg : ∀ a i x r, ab_Sh (g a i x r)) : ab_Sh (fun kn kc => ab_RIJ st (fun a i x r => g a i x r kn kc)) := by
  unfold ab_RIJ; split
  · exact hg _ _ _ _
  · exact ab_Sh_0
theorem ab_Sh_5 {st : List Value} {g : Nat → Int32 → Nat → Int32 → Int32 → List Value → ab_KN → ab_KC → Option ab_R} (hg : ∀ a sp b dp n r, ab_Sh (g a sp b dp n r)) : ab_Sh (fun kn kc => ab_5 st (fun a sp b dp n r => g a sp b dp n r kn kc)) := by
  unfold ab_5; split
  · exact hg _ _ _ _ _ _
  · exact ab_Sh_0
theorem ab_Sh_1V {st : List Value} {g : Value → List Value → ab_KN → ab_KC → Option ab_R} (hg : ∀ x r, ab_Sh (g x r)) : ab_Sh (fun kn kc => ab_1V st (fun x r => g x r kn kc)) := by
  unfold ab_1V; split
  · exact ab_Sh_i (hg _ _) ab_Sh_0
  · exact ab_Sh_0
theorem ab_Sh_2V {st : List Value} {g : Value → Value → List Value → ab_KN → ab_KC → Option ab_R} (hg : ∀ x y r, ab_Sh (g x y r)) : ab_Sh (fun kn kc => ab_2V st (fun x y r => g x y r kn kc)) := by
  unfold ab_2V; split
  · exact ab_Sh_i (hg _ _ _) ab_Sh_0
  · exact ab_Sh_0
theorem ab_Sh_tg {pc : Nat} {off : Int} {g : Nat → ab_KN → ab_KC → Option ab_R} (hg : ∀ x, ab_Sh (g x)) : ab_Sh (fun kn kc => ab_tg pc off (fun x => g x kn kc)) := ab_Sh_i (hg _) ab_Sh_0
theorem ab_Sh_ld {X : ab_X} {h : ab_H} {a : Nat} {i : Int32} {g : Int32 → ab_KN → ab_KC → Option ab_R} (hg : ∀ x, ab_Sh (g x)) : ab_Sh (fun kn kc => ab_ld X h a i (fun x => g x kn kc)) := ab_Sh_i (hg _) (ab_Sh_i (hg _) (ab_Sh_i (hg _) ab_Sh_0))
theorem ab_Sh_lb {h : ab_H} {a : Nat} {i : Int32} {g : Int32 → ab_KN → ab_KC → Option ab_R} (hg : ∀ x, ab_Sh (g x)) : ab_Sh (fun kn kc => ab_lb h a i (fun x => g x kn kc)) := ab_Sh_i (hg _) ab_Sh_0
theorem ab_Sh_lj {h : ab_H} {a : Nat} {i : Int32} {g : Int64 → ab_KN → ab_KC → Option ab_R} (hg : ∀ x, ab_Sh (g x)) : ab_Sh (fun kn kc => ab_lj h a i (fun x => g x kn kc)) := ab_Sh_i (hg _) ab_Sh_0
theorem ab_Sh_la {a : Nat} {i : Int32} {g : Nat → ab_KN → ab_KC → Option ab_R} (hg : ∀ x, ab_Sh (g x)) : ab_Sh (fun kn kc => ab_la a i (fun x => g x kn kc)) := ab_Sh_i (hg _) ab_Sh_0
theorem ab_Sh_sd {h : ab_H} {a : Nat} {i x : Int32} {g : ab_H → ab_KN → ab_KC → Option ab_R} (hg : ∀ x, ab_Sh (g x)) : ab_Sh (fun kn kc => ab_sd h a i x (fun x => g x kn kc)) := ab_Sh_i (hg _) ab_Sh_0
theorem ab_Sh_sb {h : ab_H} {a : Nat} {i x : Int32} {g : ab_H → ab_KN → ab_KC → Option ab_R} (hg : ∀ x, ab_Sh (g x)) : ab_Sh (fun kn kc => ab_sb h a i x (fun x => g x kn kc)) := ab_Sh_i (hg _) ab_Sh_0
theorem ab_Sh_sj {h : ab_H} {a : Nat} {i : Int32} {x : Int64} {g : ab_H → ab_KN → ab_KC → Option ab_R} (hg : ∀ x, ab_Sh (g x)) : ab_Sh (fun kn kc => ab_sj h a i x (fun x => g x kn kc)) := ab_Sh_i (hg _) ab_Sh_0
theorem ab_Sh_ln {X : ab_X} {a : Nat} {g : Int32 → ab_KN → ab_KC → Option ab_R} (hg : ∀ x, ab_Sh (g x)) : ab_Sh (fun kn kc => ab_ln X a (fun x => g x kn kc)) := ab_Sh_i (hg _) (ab_Sh_i (hg _) (ab_Sh_i (hg _) ab_Sh_0))
theorem ab_Sh_ob {a ci : Nat} {g : ab_KN → ab_KC → Option ab_R} (hg : ab_Sh g) : ab_Sh (fun kn kc => ab_ob a ci (g kn kc)) := ab_Sh_i hg ab_Sh_0
theorem ab_Sh_pf {h : ab_H} {ci j : Nat} {st : List Value} {g : ab_H → List Value → ab_KN → ab_KC → Option ab_R} (hg : ∀ x r, ab_Sh (g x r)) : ab_Sh (fun kn kc => ab_pf h ci j st (fun x r => g x r kn kc)) := by
  unfold ab_pf; split
  · split
    · exact ab_Sh_ob (hg _ _)
    · exact ab_Sh_0
  · split
    · exact ab_Sh_ob (hg _ _)
    · exact ab_Sh_0
  · exact ab_Sh_0
theorem ab_Sh_dI {y : Int32} {g : ab_KN → ab_KC → Option ab_R} (hg : ab_Sh g) : ab_Sh (fun kn kc => ab_dI y (g kn kc)) := ab_Sh_i ab_Sh_0 hg
theorem ab_Sh_dJ {y : Int64} {g : ab_KN → ab_KC → Option ab_R} (hg : ab_Sh g) : ab_Sh (fun kn kc => ab_dJ y (g kn kc)) := ab_Sh_i ab_Sh_0 hg
theorem ab_Sh_bI {c : Jvm.ClassFile.Cond} {x y : Int32} {f g : ab_KN → ab_KC → Option ab_R} (hf : ab_Sh f) (hg : ab_Sh g) : ab_Sh (fun kn kc => ab_bI c x y (f kn kc) (g kn kc)) := by
  cases c <;> first | exact ab_Sh_i hf hg | exact ab_Sh_i hg hf
theorem ab_Sh_ts {pc : Nat} {x : Int32} {d lo hi : Int} {offs : Array Int} {g : Nat → ab_KN → ab_KC → Option ab_R} (hg : ∀ x, ab_Sh (g x)) : ab_Sh (fun kn kc => ab_ts pc x d lo hi offs (fun x => g x kn kc)) := by
  unfold ab_ts
  refine ab_Sh_i (ab_Sh_tg hg) ?_
  split
  · exact ab_Sh_tg hg
  · exact ab_Sh_0
theorem ab_Sh_cp {h : ab_H} {a : Nat} {sp : Int32} {b : Nat} {dp n : Int32} {g : ab_H → ab_KN → ab_KC → Option ab_R} (hg : ∀ x, ab_Sh (g x)) : ab_Sh (fun kn kc => ab_cp h a sp b dp n (fun x => g x kn kc)) := ab_Sh_i ab_Sh_0 (ab_Sh_i (hg _) (ab_Sh_i (hg _) ab_Sh_0))
theorem ab_Sh_cal {st : List Value} {n : Nat} {g : List Value → List Value → ab_KN → ab_KC → Option ab_R} (hg : ∀ x r, ab_Sh (g x r)) : ab_Sh (fun kn kc => ab_cal st n (fun x r => g x r kn kc)) := ab_Sh_i (hg _ _) ab_Sh_0
set_option maxHeartbeats 4000000 in
theorem ab_Sh_st (X : ab_X) (o : Nat) (rt : Option FieldType) (lg : List Nat) (ins : Instr) (pc : Nat) (lv st : List Value) (h : ab_H) : ab_Sh (fun kn kc => ab_st X o rt lg ins pc lv st h kn kc) := by
  cases ins
  all_goals first
    | exact ab_Sh_0
    | exact ab_Sh_n
    | exact ab_Sh_lI fun _ => ab_Sh_n
    | exact ab_Sh_lJ fun _ => ab_Sh_n
    | exact ab_Sh_lR fun _ => ab_Sh_n
    | exact ab_Sh_1I fun _ _ => ab_Sh_n
    | exact ab_Sh_2I fun _ _ _ => ab_Sh_n
    | exact ab_Sh_1J fun _ _ => ab_Sh_n
    | exact ab_Sh_2J fun _ _ _ => ab_Sh_n
    | exact ab_Sh_JI fun _ _ _ => ab_Sh_n
    | exact ab_Sh_1V fun _ _ => ab_Sh_n
    | exact ab_Sh_2V fun _ _ _ => ab_Sh_n
    | exact ab_Sh_1I fun _ _ => ab_Sh_s1 fun _ => ab_Sh_n
    | exact ab_Sh_1J fun _ _ => ab_Sh_s2 fun _ => ab_Sh_n
    | exact ab_Sh_1R fun _ _ => ab_Sh_s1 fun _ => ab_Sh_n
    | exact ab_Sh_lI fun _ => ab_Sh_s1 fun _ => ab_Sh_n
    | exact ab_Sh_2I fun _ _ _ => ab_Sh_dI ab_Sh_n
    | exact ab_Sh_2J fun _ _ _ => ab_Sh_dJ ab_Sh_n
    | exact ab_Sh_i (ab_Sh_1I fun _ _ => ab_Sh_bI ab_Sh_n ab_Sh_n) ab_Sh_0
    | exact ab_Sh_i (ab_Sh_2I fun _ _ _ => ab_Sh_bI ab_Sh_n ab_Sh_n) ab_Sh_0
    | exact ab_Sh_b fun _ => ab_Sh_n
    | exact ab_Sh_b fun _ => ab_Sh_1R fun _ _ => ab_Sh_ob ab_Sh_n
    | exact ab_Sh_b fun _ => ab_Sh_pf fun _ _ => ab_Sh_n
    | exact ab_Sh_i (ab_Sh_5 fun _ _ _ _ _ _ => ab_Sh_i (ab_Sh_cp fun _ => ab_Sh_n) ab_Sh_0) (ab_Sh_b fun _ => ab_Sh_i (ab_Sh_cal fun _ _ => ab_Sh_i ab_Sh_c ab_Sh_0) (ab_Sh_i (ab_Sh_2I fun _ _ _ => ab_Sh_i ab_Sh_n ab_Sh_0) (ab_Sh_i (ab_Sh_2I fun _ _ _ => ab_Sh_i ab_Sh_n ab_Sh_0) (ab_Sh_i (ab_Sh_1I fun _ _ => ab_Sh_i ab_Sh_n ab_Sh_0) ab_Sh_0))))
    | exact ab_Sh_b fun _ => ab_Sh_i (ab_Sh_cal fun _ _ => ab_Sh_1R fun _ _ => ab_Sh_i (ab_Sh_ob ab_Sh_c) ab_Sh_0) ab_Sh_0
    | exact ab_Sh_tg fun _ => ab_Sh_n
    | exact ab_Sh_1I fun _ _ => ab_Sh_ts fun _ => ab_Sh_n
    | exact ab_Sh_RI fun _ _ _ => ab_Sh_ld fun _ => ab_Sh_n
    | exact ab_Sh_RI fun _ _ _ => ab_Sh_lb fun _ => ab_Sh_n
    | exact ab_Sh_RI fun _ _ _ => ab_Sh_lj fun _ => ab_Sh_n
    | exact ab_Sh_RI fun _ _ _ => ab_Sh_la fun _ => ab_Sh_n
    | exact ab_Sh_RII fun _ _ _ _ => ab_Sh_sd fun _ => ab_Sh_n
    | exact ab_Sh_RII fun _ _ _ _ => ab_Sh_sb fun _ => ab_Sh_n
    | exact ab_Sh_RIJ fun _ _ _ _ => ab_Sh_sj fun _ => ab_Sh_n
    | exact ab_Sh_1R fun _ _ => ab_Sh_ln fun _ => ab_Sh_n
    | exact ab_Sh_i ab_Sh_n ab_Sh_0
    | exact ab_Sh_1I fun _ _ => ab_Sh_i ab_Sh_r ab_Sh_0
    | exact ab_Sh_1J fun _ _ => ab_Sh_i ab_Sh_r ab_Sh_0
    | exact ab_Sh_i ab_Sh_r ab_Sh_0
theorem ab_Sh_sp (X : ab_X) (M pc : Nat) (lv st : List Value) (h : ab_H) : ab_Sh (fun kn kc => ab_sp X M pc lv st h kn kc) := by
  unfold ab_sp; split
  · exact ab_Sh_st _ _ _ _ _ _ _ _ _
  · exact ab_Sh_0
theorem ab_spC (X : ab_X) (M pc : Nat) (lv st : List Value) (h : ab_H) : (∀ kn kc, ab_sp X M pc lv st h kn kc = none) ∨ (∃ pc' lv' st' h', ∀ kn kc, ab_sp X M pc lv st h kn kc = kn pc' lv' st' h') ∨ (∃ r, ∀ kn kc, ab_sp X M pc lv st h kn kc = some r) ∨ (∃ m as h' pc' lv' st', ∀ kn kc, ab_sp X M pc lv st h kn kc = kc m as h' (fun z => kn pc' lv' (ab_pu z.1 st') z.2)) := ab_Sh_sp X M pc lv st h
theorem ab_xF_s (X : ab_X) (n d M pc : Nat) (lv st : List Value) (h : ab_H) : ab_xF X (n + 1) d M pc lv st h = ab_sp X M pc lv st h (fun pc lv st h => ab_xF X n d M pc lv st h) (fun m as h k => match d with
    | 0 => none
    | d + 1 => (ab_xF X n d m 0 (ab_en (ab_ml m) as) [] h).bind k) := rfl
theorem ab_mono (X : ab_X) : ∀ (n d M pc : Nat) (lv st : List Value) (h : ab_H) (r : ab_R), ab_xF X n d M pc lv st h = some r → ab_xF X (n + 1) d M pc lv st h = some r
  | 0, _, _, _, _, _, _, _, q => by cases q
  | n + 1, d, M, pc, lv, st, h, r, q => by
    rw [ab_xF_s] at q ⊢
    rcases ab_spC X M pc lv st h with e | ⟨pc', lv', st', h', e⟩ | ⟨r', e⟩ | ⟨m, as, h', pc', lv', st', e⟩
    · rw [e] at q; cases q
    · rw [e] at q ⊢; exact ab_mono X n _ _ _ _ _ _ _ q
    · rw [e] at q ⊢; exact q
    · rw [e] at q ⊢
      cases d with
      | zero => cases q
      | succ d =>
        dsimp only at q ⊢
        cases hc : ab_xF X n d m 0 (ab_en (ab_ml m) as) [] h' with
        | none => rw [hc] at q; cases q
        | some z =>
          rw [hc] at q
          rw [ab_mono X n _ _ _ _ _ _ _ hc]
          exact ab_mono X n _ _ _ _ _ _ _ q
theorem ab_mono_le (X : ab_X) {n k d M pc : Nat} {lv st : List Value} {h : ab_H} {r : ab_R} (hk : n ≤ k) (q : ab_xF X n d M pc lv st h = some r) : ab_xF X k d M pc lv st h = some r := by
  induction hk with
  | refl => exact q
  | step _ ih => exact ab_mono X _ _ _ _ _ _ _ _ ih
/-- the run -/
noncomputable def ab_ex (X : ab_X) (d M pc : Nat) (lv st : List Value) (h : ab_H) : Option ab_R :=
  haveI := Classical.propDecidable (∃ n r, ab_xF X n d M pc lv st h = some r)
  if q : ∃ n r, ab_xF X n d M pc lv st h = some r then some (Classical.choose (Classical.choose_spec q)) else none
theorem ab_ex_some {X : ab_X} {d M pc : Nat} {lv st : List Value} {h : ab_H} {r : ab_R} : ab_ex X d M pc lv st h = some r ↔ ∃ n, ab_xF X n d M pc lv st h = some r := by
  constructor
  · intro q
    unfold ab_ex at q
    split at q
    · rename_i w
      have hs := Classical.choose_spec (Classical.choose_spec w)
      rw [Option.some.inj q] at hs
      exact ⟨_, hs⟩
    · cases q
  · rintro ⟨n, hn⟩
    have w : ∃ n r, ab_xF X n d M pc lv st h = some r := ⟨n, r, hn⟩
    unfold ab_ex
    rw [dif_pos w]
    have hs := Classical.choose_spec (Classical.choose_spec w)
    have a1 := ab_mono_le X (Nat.le_max_left n (Classical.choose w)) hn
    have a2 := ab_mono_le X (Nat.le_max_right n (Classical.choose w)) hs
    exact a2.symm.trans a1
theorem ab_ex_of_iff {X : ab_X} {d M pc : Nat} {lv st : List Value} {h : ab_H} {o : Option ab_R} (e : ∀ r, (∃ n, ab_xF X n d M pc lv st h = some r) ↔ o = some r) : ab_ex X d M pc lv st h = o := by
  apply Option.ext
  intro r
  exact ab_ex_some.trans (e r)
/-- a method's run from its start -/
noncomputable def ab_ru (X : ab_X) (d M : Nat) (as : List Value) (h : ab_H) : Option ab_R := ab_ex X d M 0 (ab_en (ab_ml M) as) [] h
noncomputable def ab_kc (X : ab_X) (d : Nat) : ab_KC := fun m as h k => match d with
  | 0 => none
  | d + 1 => (ab_ru X d m as h).bind k
theorem ab_ex_eq (X : ab_X) (d M pc : Nat) (lv st : List Value) (h : ab_H) : ab_ex X d M pc lv st h = ab_sp X M pc lv st h (fun pc lv st h => ab_ex X d M pc lv st h) (ab_kc X d) := by
  refine ab_ex_of_iff fun r => ?_
  rcases ab_spC X M pc lv st h with e | ⟨pc', lv', st', h', e⟩ | ⟨r', e⟩ | ⟨m, as, h', pc', lv', st', e⟩
  · rw [e]
    refine ⟨fun ⟨n, hn⟩ => ?_, fun q => by cases q⟩
    cases n with
    | zero => cases hn
    | succ n => rw [ab_xF_s, e] at hn; cases hn
  · rw [e, ab_ex_some]
    refine ⟨fun ⟨n, hn⟩ => ?_, fun ⟨n, hn⟩ => ⟨n + 1, by rw [ab_xF_s, e]; exact hn⟩⟩
    cases n with
    | zero => cases hn
    | succ n => rw [ab_xF_s, e] at hn; exact ⟨n, hn⟩
  · rw [e]
    refine ⟨fun ⟨n, hn⟩ => ?_, fun q => ⟨1, by rw [ab_xF_s, e]; exact q⟩⟩
    cases n with
    | zero => cases hn
    | succ n => rw [ab_xF_s, e] at hn; exact hn
  · rw [e]
    cases d with
    | zero =>
      refine ⟨fun ⟨n, hn⟩ => ?_, fun q => by cases q⟩
      cases n with
      | zero => cases hn
      | succ n => rw [ab_xF_s, e] at hn; cases hn
    | succ d =>
      show _ ↔ (ab_ru X d m as h').bind _ = some r
      constructor
      · rintro ⟨n, hn⟩
        cases n with
        | zero => cases hn
        | succ n =>
          rw [ab_xF_s, e] at hn
          dsimp only at hn
          cases hc : ab_xF X n d m 0 (ab_en (ab_ml m) as) [] h' with
          | none => rw [hc] at hn; cases hn
          | some z =>
            rw [hc] at hn
            have hz : ab_ru X d m as h' = some z := ab_ex_some.mpr ⟨n, hc⟩
            rw [hz]
            exact ab_ex_some.mpr ⟨n, hn⟩
      · intro q
        cases hz : ab_ru X d m as h' with
        | none => rw [hz] at q; cases q
        | some z =>
          rw [hz] at q
          obtain ⟨n1, h1⟩ := ab_ex_some.mp hz
          obtain ⟨n2, h2⟩ := ab_ex_some.mp q
          refine ⟨max n1 n2 + 1, ?_⟩
          rw [ab_xF_s, e]
          dsimp only
          rw [ab_mono_le X (Nat.le_max_left n1 n2) h1]
          exact ab_mono_le X (Nat.le_max_right n1 n2) h2
/-- n instructions at once -/
noncomputable def ab_xN (X : ab_X) (d M : Nat) : Nat → Nat → List Value → List Value → ab_H → Option ab_R
  | 0, pc, lv, st, h => ab_ex X d M pc lv st h
  | n + 1, pc, lv, st, h => ab_sp X M pc lv st h (ab_xN X d M n) (ab_kc X d)
theorem ab_ex_xN (X : ab_X) (d M : Nat) : ∀ (n pc : Nat) (lv st : List Value) (h : ab_H), ab_ex X d M pc lv st h = ab_xN X d M n pc lv st h
  | 0, _, _, _, _ => rfl
  | n + 1, pc, lv, st, h => by
    rw [ab_ex_eq]
    show ab_sp X M pc lv st h _ _ = ab_sp X M pc lv st h _ _
    congr 1
    funext pc lv st h
    exact ab_ex_xN X d M n pc lv st h
end
section
/-! the tables of part 02 are the Statement's -/
def ab_onm (o : Nat) : String := ab_on.getD o ""
def ab_fok (q : Nat × Nat × Nat × Nat × Nat) : Bool := match vwCl[q.2.2.1]? with
  | some r => decide (q.2.2.2.1 < r.2.2) && (decide (ab_nf q.2.2.1 = r.2.2) && (decide (lw_tbl[q.2.2.2.2]? = some (Cond.fieldLink (ab_onm q.1) q.2.1 (r.2.1 q.2.2.2.1).1 (r.2.1 q.2.2.2.1).2.1 (r.2.1 q.2.2.2.1).2.2.1)) && (match ab_fk q.2.2.1 q.2.2.2.1 with
    | 0 => !(r.2.1 q.2.2.2.1).2.2.2 && decide (parseFieldDescriptor (r.2.1 q.2.2.2.1).2.2.1 = some .int)
    | 1 => !(r.2.1 q.2.2.2.1).2.2.2 && decide (parseFieldDescriptor (r.2.1 q.2.2.2.1).2.2.1 = some .long)
    | _ => true)))
  | none => false
theorem ab_fT_ok : ab_fT.all ab_fok = true := by decide +kernel
theorem ab_fl_spec {o idx : Nat} {q : Nat × Nat × Nat} (h : ab_fl o idx = some q) : ∃ r : vw_C, vwCl[q.1]? = some r ∧ q.2.1 < r.2.2 ∧ ab_nf q.1 = r.2.2 ∧ Cond.fieldLink (ab_onm o) idx (r.2.1 q.2.1).1 (r.2.1 q.2.1).2.1 (r.2.1 q.2.1).2.2.1 ∈ lw_tbl ∧ (ab_fk q.1 q.2.1 = 0 → (r.2.1 q.2.1).2.2.2 = false ∧ parseFieldDescriptor (r.2.1 q.2.1).2.2.1 = some .int) ∧ (ab_fk q.1 q.2.1 = 1 → (r.2.1 q.2.1).2.2.2 = false ∧ parseFieldDescriptor (r.2.1 q.2.1).2.2.1 = some .long) := by
  unfold ab_fl at h
  cases hf : ab_fT.find? (fun q => q.1 == o && q.2.1 == idx) with
  | none => rw [hf] at h; cases h
  | some z =>
    rw [hf] at h
    cases h
    have h1 := List.find?_some hf
    have h2 := List.all_eq_true.mp ab_fT_ok z (List.mem_of_find?_eq_some hf)
    simp only [Bool.and_eq_true, beq_iff_eq] at h1
    obtain ⟨rfl, rfl⟩ := h1
    unfold ab_fok at h2
    cases hr : vwCl[z.2.2.1]? with
    | none => rw [hr] at h2; cases h2
    | some r =>
      rw [hr] at h2
      simp only [Bool.and_eq_true, decide_eq_true_eq] at h2
      obtain ⟨a1, a2, a3, a4⟩ := h2
      refine ⟨r, rfl, a1, a2, List.mem_of_getElem? a3, fun e => ?_, fun e => ?_⟩
      · rw [e] at a4
        simp only [Bool.and_eq_true, decide_eq_true_eq, Bool.not_eq_true'] at a4
        exact a4
      · rw [e] at a4
        simp only [Bool.and_eq_true, decide_eq_true_eq, Bool.not_eq_true'] at a4
        exact a4
def ab_cok (q : Nat × Nat × Nat × Nat × Nat × Nat × Nat × Nat × Nat) : Bool := match ab_mt[q.2.2.1]? with
  | some e => decide (q.2.2.1 < 192) && (decide ((parseMethodDescriptor e.1.desc).map (fun d => d.parameters.length) = some q.2.2.2.1) && (decide (lw_tbl[q.2.2.2.2.2.2.2.1]? = some (Cond.initialized e.1.cls)) && (match q.2.2.2.2.1 with
    | 0 => decide (lw_tbl[q.2.2.2.2.2.1]? = some (Cond.methodLink (ab_onm q.1) q.2.1 e.1)) && decide (lw_tbl[q.2.2.2.2.2.2.1]? = some (Cond.static e.1))
    | 1 => decide (lw_tbl[q.2.2.2.2.2.1]? = some (Cond.methodLinkNest (ab_onm q.1) q.2.1 e.1 "AbsentPost")) && decide (lw_tbl[q.2.2.2.2.2.2.1]? = some (Cond.static e.1))
    | 2 => decide (lw_tbl[q.2.2.2.2.2.1]? = some (Cond.methodLink (ab_onm q.1) q.2.1 e.1)) && (decide (lw_tbl[q.2.2.2.2.2.2.1]? = some (Cond.instanceMethod e.1)) && (decide (lw_tbl[q.2.2.2.2.2.2.2.2]? = some (Cond.selects e.1.cls e.1 e.1)) && (match vwCl[e.2.2.2.2.1]? with
      | some r => decide (r.1 = e.1.cls)
      | none => false)))
    | 3 => decide (lw_tbl[q.2.2.2.2.2.1]? = some (Cond.methodLink (ab_onm q.1) q.2.1 Lib.Math.max.name))
    | 4 => decide (lw_tbl[q.2.2.2.2.2.1]? = some (Cond.methodLink (ab_onm q.1) q.2.1 Lib.Math.min.name))
    | 5 => decide (lw_tbl[q.2.2.2.2.2.1]? = some (Cond.methodLink (ab_onm q.1) q.2.1 Lib.Math.abs.name))
    | _ => false)))
  | none => false
def ab_cok2 (q : Nat × Nat × Nat × Nat × Nat × Nat × Nat × Nat × Nat) : Bool := match ab_mt[q.2.2.1]? with
  | some e => decide (3 ≤ q.2.2.2.2.1) || (decide (e.2.2.1 ≤ 80) && (decide (plainName e.1.cls = true) && (decide (e.1.cls ≠ "java/lang/invoke/MethodHandle") && (decide (e.1.cls ≠ "java/lang/invoke/VarHandle") && decide (ab_onm e.2.2.2.2.1 = e.1.cls)))))
  | none => false
theorem ab_cT_ok2 : ab_cT.all ab_cok2 = true := by decide +kernel
theorem ab_cT_ok : ab_cT.all ab_cok = true := by decide +kernel
theorem ab_cl_spec {o idx : Nat} {q : Nat × Nat × Nat × Nat × Nat × Nat × Nat} (h : ab_cl o idx = some q) : ∃ e : ab_E, ab_mt[q.1]? = some e ∧ q.1 < 192 ∧ (parseMethodDescriptor e.1.desc).map (fun d => d.parameters.length) = some q.2.1 ∧ Cond.initialized e.1.cls ∈ lw_tbl ∧ (q.2.2.1 = 0 → Cond.methodLink (ab_onm o) idx e.1 ∈ lw_tbl ∧ Cond.static e.1 ∈ lw_tbl) ∧ (q.2.2.1 = 1 → Cond.methodLinkNest (ab_onm o) idx e.1 "AbsentPost" ∈ lw_tbl ∧ Cond.static e.1 ∈ lw_tbl) ∧ (q.2.2.1 = 2 → Cond.methodLink (ab_onm o) idx e.1 ∈ lw_tbl ∧ Cond.instanceMethod e.1 ∈ lw_tbl ∧ Cond.selects e.1.cls e.1 e.1 ∈ lw_tbl ∧ ∃ r : vw_C, vwCl[e.2.2.2.2.1]? = some r ∧ r.1 = e.1.cls) ∧ (q.2.2.1 = 3 → Cond.methodLink (ab_onm o) idx Lib.Math.max.name ∈ lw_tbl) ∧ (q.2.2.1 = 4 → Cond.methodLink (ab_onm o) idx Lib.Math.min.name ∈ lw_tbl) ∧ (q.2.2.1 = 5 → Cond.methodLink (ab_onm o) idx Lib.Math.abs.name ∈ lw_tbl) ∧ (q.2.2.1 < 3 → e.2.2.1 ≤ 80 ∧ plainName e.1.cls = true ∧ (e.1.cls ≠ "java/lang/invoke/MethodHandle" ∧ e.1.cls ≠ "java/lang/invoke/VarHandle") ∧ ab_onm e.2.2.2.2.1 = e.1.cls) := by
  unfold ab_cl at h
  cases hf : ab_cT.find? (fun q => q.1 == o && q.2.1 == idx) with
  | none => rw [hf] at h; cases h
  | some z =>
    rw [hf] at h
    cases h
    have h1 := List.find?_some hf
    have h2 := List.all_eq_true.mp ab_cT_ok z (List.mem_of_find?_eq_some hf)
    have h3 := List.all_eq_true.mp ab_cT_ok2 z (List.mem_of_find?_eq_some hf)
    simp only [Bool.and_eq_true, beq_iff_eq] at h1
    obtain ⟨rfl, rfl⟩ := h1
    unfold ab_cok at h2
    unfold ab_cok2 at h3
    cases hr : ab_mt[z.2.2.1]? with
    | none => rw [hr] at h2; cases h2
    | some e =>
      rw [hr] at h2 h3
      simp only [Bool.and_eq_true, decide_eq_true_eq] at h2
      obtain ⟨a0, a1, a2, a3⟩ := h2
      refine ⟨e, rfl, a0, a1, List.mem_of_getElem? a2, fun k => ?_, fun k => ?_, fun k => ?_, fun k => ?_, fun k => ?_, fun k => ?_, fun k => ?_⟩
      · rw [k] at a3
        simp only [Bool.and_eq_true, decide_eq_true_eq] at a3
        exact ⟨List.mem_of_getElem? a3.1, List.mem_of_getElem? a3.2⟩
      · rw [k] at a3
        simp only [Bool.and_eq_true, decide_eq_true_eq] at a3
        exact ⟨List.mem_of_getElem? a3.1, List.mem_of_getElem? a3.2⟩
      · rw [k] at a3
        simp only [Bool.and_eq_true, decide_eq_true_eq] at a3
        refine ⟨List.mem_of_getElem? a3.1, List.mem_of_getElem? a3.2.1, List.mem_of_getElem? a3.2.2.1, ?_⟩
        cases hv : vwCl[e.2.2.2.2.1]? with
        | none => have := a3.2.2.2; rw [hv] at this; cases this
        | some r =>
          have := a3.2.2.2
          rw [hv] at this
          exact ⟨r, rfl, of_decide_eq_true this⟩
      · rw [k] at a3
        exact List.mem_of_getElem? (of_decide_eq_true a3)
      · rw [k] at a3
        exact List.mem_of_getElem? (of_decide_eq_true a3)
      · rw [k] at a3
        exact List.mem_of_getElem? (of_decide_eq_true a3)
      · simp only [Bool.or_eq_true, Bool.and_eq_true, decide_eq_true_eq] at h3
        rcases h3 with h3 | h3
        · exact absurd h3 (Nat.not_le.mpr k)
        · exact ⟨h3.1, h3.2.1, ⟨h3.2.2.1, h3.2.2.2.1⟩, h3.2.2.2.2⟩
theorem ab_kT_ok : (ab_kT.all fun q => decide (lw_tbl[q.2.2.2]? = some (Cond.constantLong (ab_onm q.1) q.2.1 q.2.2.1))) = true := by decide +kernel
theorem ab_kj_spec {o idx : Nat} {q : Int64 × Nat} (h : ab_kj o idx = some q) : Cond.constantLong (ab_onm o) idx q.1 ∈ lw_tbl := by
  unfold ab_kj at h
  cases hf : ab_kT.find? (fun q => q.1 == o && q.2.1 == idx) with
  | none => rw [hf] at h; cases h
  | some z =>
    rw [hf] at h
    cases h
    have h1 := List.find?_some hf
    have h2 := List.all_eq_true.mp ab_kT_ok z (List.mem_of_find?_eq_some hf)
    simp only [Bool.and_eq_true, beq_iff_eq] at h1
    obtain ⟨rfl, rfl⟩ := h1
    exact List.mem_of_getElem? (of_decide_eq_true h2)
theorem ab_jT_ok : (ab_jT.all fun q => decide (lw_tbl[q.2.2.2]? = some (Cond.constant (ab_onm q.1) q.2.1 q.2.2.1))) = true := by decide +kernel
theorem ab_ki_spec {o idx : Nat} {q : Int32 × Nat} (h : ab_ki o idx = some q) : Cond.constant (ab_onm o) idx q.1 ∈ lw_tbl := by
  unfold ab_ki at h
  cases hf : ab_jT.find? (fun q => q.1 == o && q.2.1 == idx) with
  | none => rw [hf] at h; cases h
  | some z =>
    rw [hf] at h
    cases h
    have h1 := List.find?_some hf
    have h2 := List.all_eq_true.mp ab_jT_ok z (List.mem_of_find?_eq_some hf)
    simp only [Bool.and_eq_true, beq_iff_eq] at h1
    obtain ⟨rfl, rfl⟩ := h1
    exact List.mem_of_getElem? (of_decide_eq_true h2)
theorem ab_aT_ok : (ab_aT.all fun q => decide (lw_tbl[q.2.2]? = some (Cond.methodLink (ab_onm q.1) q.2.1 arraycopyName))) = true := by decide +kernel
theorem ab_ac_spec {o idx : Nat} (h : (ab_ac o idx).isSome = true) : Cond.methodLink (ab_onm o) idx arraycopyName ∈ lw_tbl := by
  unfold ab_ac at h
  cases hf : ab_aT.find? (fun q => q.1 == o && q.2.1 == idx) with
  | none => rw [hf] at h; cases h
  | some z =>
    have h1 := List.find?_some hf
    have h2 := List.all_eq_true.mp ab_aT_ok z (List.mem_of_find?_eq_some hf)
    simp only [Bool.and_eq_true, beq_iff_eq] at h1
    obtain ⟨rfl, rfl⟩ := h1
    exact List.mem_of_getElem? (of_decide_eq_true h2)
theorem ab_w_nat : Cond.native arraycopyName ∈ lw_tbl ∧ Cond.static arraycopyName ∈ lw_tbl ∧ Cond.initialized "java/lang/System" ∈ lw_tbl := by decide +kernel
theorem ab_w_z : lw_tbl[ab_zT.2.2]? = some (Cond.fieldLink (ab_onm ab_zT.1) ab_zT.2.1 "AbsentPost" "KIND_LETTERS" "[I") := by decide +kernel
/-- the words that a callee takes along -/
def ab_tb : List Cond := lw_tbl.filter goodWord
theorem ab_tb_in {w : Cond} (h : w ∈ lw_tbl) (hg : goodWord w = true) : w ∈ ab_tb := List.mem_filter.mpr ⟨h, hg⟩
set_option maxRecDepth 20000 in
theorem ab_pc0 : Cond.code ab_e0.1 ab_e0.2.1 ab_e0.2.2.1 ab_e0.2.2.2.1 ∈ lw_tbl := List.mem_of_getElem? (i := 60) rfl
set_option maxRecDepth 20000 in
theorem ab_pc1 : Cond.code ab_e1.1 ab_e1.2.1 ab_e1.2.2.1 ab_e1.2.2.2.1 ∈ lw_tbl := List.mem_of_getElem? (i := 63) rfl
set_option maxRecDepth 20000 in
theorem ab_pc2 : Cond.code ab_e2.1 ab_e2.2.1 ab_e2.2.2.1 ab_e2.2.2.2.1 ∈ lw_tbl := List.mem_of_getElem? (i := 68) rfl
set_option maxRecDepth 20000 in
theorem ab_pc3 : Cond.code ab_e3.1 ab_e3.2.1 ab_e3.2.2.1 ab_e3.2.2.2.1 ∈ lw_tbl := List.mem_of_getElem? (i := 75) rfl
set_option maxRecDepth 20000 in
theorem ab_pc4 : Cond.code ab_e4.1 ab_e4.2.1 ab_e4.2.2.1 ab_e4.2.2.2.1 ∈ lw_tbl := List.mem_of_getElem? (i := 125) rfl
set_option maxRecDepth 20000 in
theorem ab_pc5 : Cond.code ab_e5.1 ab_e5.2.1 ab_e5.2.2.1 ab_e5.2.2.2.1 ∈ lw_tbl := List.mem_of_getElem? (i := 139) rfl
set_option maxRecDepth 20000 in
theorem ab_pc6 : Cond.code ab_e6.1 ab_e6.2.1 ab_e6.2.2.1 ab_e6.2.2.2.1 ∈ lw_tbl := List.mem_of_getElem? (i := 233) rfl
set_option maxRecDepth 20000 in
theorem ab_pc7 : Cond.code ab_e7.1 ab_e7.2.1 ab_e7.2.2.1 ab_e7.2.2.2.1 ∈ lw_tbl := List.mem_of_getElem? (i := 236) rfl
set_option maxRecDepth 20000 in
theorem ab_pc8 : Cond.code ab_e8.1 ab_e8.2.1 ab_e8.2.2.1 ab_e8.2.2.2.1 ∈ lw_tbl := List.mem_of_getElem? (i := 240) rfl
set_option maxRecDepth 20000 in
theorem ab_pc9 : Cond.code ab_e9.1 ab_e9.2.1 ab_e9.2.2.1 ab_e9.2.2.2.1 ∈ lw_tbl := List.mem_of_getElem? (i := 244) rfl
set_option maxRecDepth 20000 in
theorem ab_pc10 : Cond.code ab_e10.1 ab_e10.2.1 ab_e10.2.2.1 ab_e10.2.2.2.1 ∈ lw_tbl := List.mem_of_getElem? (i := 248) rfl
set_option maxRecDepth 20000 in
theorem ab_pc11 : Cond.code ab_e11.1 ab_e11.2.1 ab_e11.2.2.1 ab_e11.2.2.2.1 ∈ lw_tbl := List.mem_of_getElem? (i := 252) rfl
set_option maxRecDepth 20000 in
theorem ab_pc12 : Cond.code ab_e12.1 ab_e12.2.1 ab_e12.2.2.1 ab_e12.2.2.2.1 ∈ lw_tbl := List.mem_of_getElem? (i := 256) rfl
set_option maxRecDepth 20000 in
theorem ab_pc13 : Cond.code ab_e13.1 ab_e13.2.1 ab_e13.2.2.1 ab_e13.2.2.2.1 ∈ lw_tbl := List.mem_of_getElem? (i := 260) rfl
set_option maxRecDepth 20000 in
theorem ab_pc14 : Cond.code ab_e14.1 ab_e14.2.1 ab_e14.2.2.1 ab_e14.2.2.2.1 ∈ lw_tbl := List.mem_of_getElem? (i := 263) rfl
set_option maxRecDepth 20000 in
theorem ab_pc15 : Cond.code ab_e15.1 ab_e15.2.1 ab_e15.2.2.1 ab_e15.2.2.2.1 ∈ lw_tbl := List.mem_of_getElem? (i := 270) rfl
set_option maxRecDepth 20000 in
theorem ab_pc16 : Cond.code ab_e16.1 ab_e16.2.1 ab_e16.2.2.1 ab_e16.2.2.2.1 ∈ lw_tbl := List.mem_of_getElem? (i := 274) rfl
set_option maxRecDepth 20000 in
theorem ab_pc17 : Cond.code ab_e17.1 ab_e17.2.1 ab_e17.2.2.1 ab_e17.2.2.2.1 ∈ lw_tbl := List.mem_of_getElem? (i := 277) rfl
set_option maxRecDepth 20000 in
theorem ab_pc18 : Cond.code ab_e18.1 ab_e18.2.1 ab_e18.2.2.1 ab_e18.2.2.2.1 ∈ lw_tbl := List.mem_of_getElem? (i := 280) rfl
set_option maxRecDepth 20000 in
theorem ab_pc19 : Cond.code ab_e19.1 ab_e19.2.1 ab_e19.2.2.1 ab_e19.2.2.2.1 ∈ lw_tbl := List.mem_of_getElem? (i := 284) rfl
set_option maxRecDepth 20000 in
theorem ab_pc20 : Cond.code ab_e20.1 ab_e20.2.1 ab_e20.2.2.1 ab_e20.2.2.2.1 ∈ lw_tbl := List.mem_of_getElem? (i := 288) rfl
set_option maxRecDepth 20000 in
theorem ab_pc21 : Cond.code ab_e21.1 ab_e21.2.1 ab_e21.2.2.1 ab_e21.2.2.2.1 ∈ lw_tbl := List.mem_of_getElem? (i := 291) rfl
set_option maxRecDepth 20000 in
theorem ab_pc22 : Cond.code ab_e22.1 ab_e22.2.1 ab_e22.2.2.1 ab_e22.2.2.2.1 ∈ lw_tbl := List.mem_of_getElem? (i := 294) rfl
set_option maxRecDepth 20000 in
theorem ab_pc23 : Cond.code ab_e23.1 ab_e23.2.1 ab_e23.2.2.1 ab_e23.2.2.2.1 ∈ lw_tbl := List.mem_of_getElem? (i := 299) rfl
set_option maxRecDepth 20000 in
theorem ab_pc24 : Cond.code ab_e24.1 ab_e24.2.1 ab_e24.2.2.1 ab_e24.2.2.2.1 ∈ lw_tbl := List.mem_of_getElem? (i := 303) rfl
set_option maxRecDepth 20000 in
theorem ab_pc25 : Cond.code ab_e25.1 ab_e25.2.1 ab_e25.2.2.1 ab_e25.2.2.2.1 ∈ lw_tbl := List.mem_of_getElem? (i := 307) rfl
set_option maxRecDepth 20000 in
theorem ab_pc26 : Cond.code ab_e26.1 ab_e26.2.1 ab_e26.2.2.1 ab_e26.2.2.2.1 ∈ lw_tbl := List.mem_of_getElem? (i := 311) rfl
set_option maxRecDepth 20000 in
theorem ab_pc27 : Cond.code ab_e27.1 ab_e27.2.1 ab_e27.2.2.1 ab_e27.2.2.2.1 ∈ lw_tbl := List.mem_of_getElem? (i := 315) rfl
set_option maxRecDepth 20000 in
theorem ab_pc28 : Cond.code ab_e28.1 ab_e28.2.1 ab_e28.2.2.1 ab_e28.2.2.2.1 ∈ lw_tbl := List.mem_of_getElem? (i := 321) rfl
set_option maxRecDepth 20000 in
theorem ab_pc29 : Cond.code ab_e29.1 ab_e29.2.1 ab_e29.2.2.1 ab_e29.2.2.2.1 ∈ lw_tbl := List.mem_of_getElem? (i := 325) rfl
set_option maxRecDepth 20000 in
theorem ab_pc30 : Cond.code ab_e30.1 ab_e30.2.1 ab_e30.2.2.1 ab_e30.2.2.2.1 ∈ lw_tbl := List.mem_of_getElem? (i := 329) rfl
set_option maxRecDepth 20000 in
theorem ab_pc31 : Cond.code ab_e31.1 ab_e31.2.1 ab_e31.2.2.1 ab_e31.2.2.2.1 ∈ lw_tbl := List.mem_of_getElem? (i := 333) rfl
set_option maxRecDepth 20000 in
theorem ab_pc32 : Cond.code ab_e32.1 ab_e32.2.1 ab_e32.2.2.1 ab_e32.2.2.2.1 ∈ lw_tbl := List.mem_of_getElem? (i := 337) rfl
set_option maxRecDepth 20000 in
theorem ab_pc33 : Cond.code ab_e33.1 ab_e33.2.1 ab_e33.2.2.1 ab_e33.2.2.2.1 ∈ lw_tbl := List.mem_of_getElem? (i := 340) rfl
set_option maxRecDepth 20000 in
theorem ab_pc34 : Cond.code ab_e34.1 ab_e34.2.1 ab_e34.2.2.1 ab_e34.2.2.2.1 ∈ lw_tbl := List.mem_of_getElem? (i := 344) rfl
set_option maxRecDepth 20000 in
theorem ab_pc35 : Cond.code ab_e35.1 ab_e35.2.1 ab_e35.2.2.1 ab_e35.2.2.2.1 ∈ lw_tbl := List.mem_of_getElem? (i := 347) rfl
set_option maxRecDepth 20000 in
theorem ab_pc36 : Cond.code ab_e36.1 ab_e36.2.1 ab_e36.2.2.1 ab_e36.2.2.2.1 ∈ lw_tbl := List.mem_of_getElem? (i := 353) rfl
set_option maxRecDepth 20000 in
theorem ab_pc37 : Cond.code ab_e37.1 ab_e37.2.1 ab_e37.2.2.1 ab_e37.2.2.2.1 ∈ lw_tbl := List.mem_of_getElem? (i := 356) rfl
set_option maxRecDepth 20000 in
theorem ab_pc38 : Cond.code ab_e38.1 ab_e38.2.1 ab_e38.2.2.1 ab_e38.2.2.2.1 ∈ lw_tbl := List.mem_of_getElem? (i := 362) rfl
set_option maxRecDepth 20000 in
theorem ab_pc39 : Cond.code ab_e39.1 ab_e39.2.1 ab_e39.2.2.1 ab_e39.2.2.2.1 ∈ lw_tbl := List.mem_of_getElem? (i := 365) rfl
set_option maxRecDepth 20000 in
theorem ab_pc40 : Cond.code ab_e40.1 ab_e40.2.1 ab_e40.2.2.1 ab_e40.2.2.2.1 ∈ lw_tbl := List.mem_of_getElem? (i := 369) rfl
set_option maxRecDepth 20000 in
theorem ab_pc41 : Cond.code ab_e41.1 ab_e41.2.1 ab_e41.2.2.1 ab_e41.2.2.2.1 ∈ lw_tbl := List.mem_of_getElem? (i := 372) rfl
set_option maxRecDepth 20000 in
theorem ab_pc42 : Cond.code ab_e42.1 ab_e42.2.1 ab_e42.2.2.1 ab_e42.2.2.2.1 ∈ lw_tbl := List.mem_of_getElem? (i := 376) rfl
set_option maxRecDepth 20000 in
theorem ab_pc43 : Cond.code ab_e43.1 ab_e43.2.1 ab_e43.2.2.1 ab_e43.2.2.2.1 ∈ lw_tbl := List.mem_of_getElem? (i := 380) rfl
set_option maxRecDepth 20000 in
theorem ab_pc44 : Cond.code ab_e44.1 ab_e44.2.1 ab_e44.2.2.1 ab_e44.2.2.2.1 ∈ lw_tbl := List.mem_of_getElem? (i := 384) rfl
set_option maxRecDepth 20000 in
theorem ab_pc45 : Cond.code ab_e45.1 ab_e45.2.1 ab_e45.2.2.1 ab_e45.2.2.2.1 ∈ lw_tbl := List.mem_of_getElem? (i := 388) rfl
set_option maxRecDepth 20000 in
theorem ab_pc46 : Cond.code ab_e46.1 ab_e46.2.1 ab_e46.2.2.1 ab_e46.2.2.2.1 ∈ lw_tbl := List.mem_of_getElem? (i := 391) rfl
set_option maxRecDepth 20000 in
theorem ab_pc47 : Cond.code ab_e47.1 ab_e47.2.1 ab_e47.2.2.1 ab_e47.2.2.2.1 ∈ lw_tbl := List.mem_of_getElem? (i := 396) rfl
set_option maxRecDepth 20000 in
theorem ab_pc48 : Cond.code ab_e48.1 ab_e48.2.1 ab_e48.2.2.1 ab_e48.2.2.2.1 ∈ lw_tbl := List.mem_of_getElem? (i := 400) rfl
set_option maxRecDepth 20000 in
theorem ab_pc49 : Cond.code ab_e49.1 ab_e49.2.1 ab_e49.2.2.1 ab_e49.2.2.2.1 ∈ lw_tbl := List.mem_of_getElem? (i := 404) rfl
set_option maxRecDepth 20000 in
theorem ab_pc50 : Cond.code ab_e50.1 ab_e50.2.1 ab_e50.2.2.1 ab_e50.2.2.2.1 ∈ lw_tbl := List.mem_of_getElem? (i := 407) rfl
set_option maxRecDepth 20000 in
theorem ab_pc51 : Cond.code ab_e51.1 ab_e51.2.1 ab_e51.2.2.1 ab_e51.2.2.2.1 ∈ lw_tbl := List.mem_of_getElem? (i := 412) rfl
set_option maxRecDepth 20000 in
theorem ab_pc52 : Cond.code ab_e52.1 ab_e52.2.1 ab_e52.2.2.1 ab_e52.2.2.2.1 ∈ lw_tbl := List.mem_of_getElem? (i := 417) rfl
set_option maxRecDepth 20000 in
theorem ab_pc53 : Cond.code ab_e53.1 ab_e53.2.1 ab_e53.2.2.1 ab_e53.2.2.2.1 ∈ lw_tbl := List.mem_of_getElem? (i := 421) rfl
set_option maxRecDepth 20000 in
theorem ab_pc54 : Cond.code ab_e54.1 ab_e54.2.1 ab_e54.2.2.1 ab_e54.2.2.2.1 ∈ lw_tbl := List.mem_of_getElem? (i := 425) rfl
set_option maxRecDepth 20000 in
theorem ab_pc55 : Cond.code ab_e55.1 ab_e55.2.1 ab_e55.2.2.1 ab_e55.2.2.2.1 ∈ lw_tbl := List.mem_of_getElem? (i := 430) rfl
set_option maxRecDepth 20000 in
theorem ab_pc56 : Cond.code ab_e56.1 ab_e56.2.1 ab_e56.2.2.1 ab_e56.2.2.2.1 ∈ lw_tbl := List.mem_of_getElem? (i := 434) rfl
set_option maxRecDepth 20000 in
theorem ab_pc57 : Cond.code ab_e57.1 ab_e57.2.1 ab_e57.2.2.1 ab_e57.2.2.2.1 ∈ lw_tbl := List.mem_of_getElem? (i := 440) rfl
set_option maxRecDepth 20000 in
theorem ab_pc58 : Cond.code ab_e58.1 ab_e58.2.1 ab_e58.2.2.1 ab_e58.2.2.2.1 ∈ lw_tbl := List.mem_of_getElem? (i := 443) rfl
set_option maxRecDepth 20000 in
theorem ab_pc59 : Cond.code ab_e59.1 ab_e59.2.1 ab_e59.2.2.1 ab_e59.2.2.2.1 ∈ lw_tbl := List.mem_of_getElem? (i := 447) rfl
set_option maxRecDepth 20000 in
theorem ab_pc60 : Cond.code ab_e60.1 ab_e60.2.1 ab_e60.2.2.1 ab_e60.2.2.2.1 ∈ lw_tbl := List.mem_of_getElem? (i := 451) rfl
set_option maxRecDepth 20000 in
theorem ab_pc61 : Cond.code ab_e61.1 ab_e61.2.1 ab_e61.2.2.1 ab_e61.2.2.2.1 ∈ lw_tbl := List.mem_of_getElem? (i := 455) rfl
set_option maxRecDepth 20000 in
theorem ab_pc62 : Cond.code ab_e62.1 ab_e62.2.1 ab_e62.2.2.1 ab_e62.2.2.2.1 ∈ lw_tbl := List.mem_of_getElem? (i := 459) rfl
set_option maxRecDepth 20000 in
theorem ab_pc63 : Cond.code ab_e63.1 ab_e63.2.1 ab_e63.2.2.1 ab_e63.2.2.2.1 ∈ lw_tbl := List.mem_of_getElem? (i := 463) rfl
set_option maxRecDepth 20000 in
theorem ab_pc64 : Cond.code ab_e64.1 ab_e64.2.1 ab_e64.2.2.1 ab_e64.2.2.2.1 ∈ lw_tbl := List.mem_of_getElem? (i := 467) rfl
set_option maxRecDepth 20000 in
theorem ab_pc65 : Cond.code ab_e65.1 ab_e65.2.1 ab_e65.2.2.1 ab_e65.2.2.2.1 ∈ lw_tbl := List.mem_of_getElem? (i := 471) rfl
set_option maxRecDepth 20000 in
theorem ab_pc66 : Cond.code ab_e66.1 ab_e66.2.1 ab_e66.2.2.1 ab_e66.2.2.2.1 ∈ lw_tbl := List.mem_of_getElem? (i := 477) rfl
set_option maxRecDepth 20000 in
theorem ab_pc67 : Cond.code ab_e67.1 ab_e67.2.1 ab_e67.2.2.1 ab_e67.2.2.2.1 ∈ lw_tbl := List.mem_of_getElem? (i := 481) rfl
set_option maxRecDepth 20000 in
theorem ab_pc68 : Cond.code ab_e68.1 ab_e68.2.1 ab_e68.2.2.1 ab_e68.2.2.2.1 ∈ lw_tbl := List.mem_of_getElem? (i := 486) rfl
set_option maxRecDepth 20000 in
theorem ab_pc69 : Cond.code ab_e69.1 ab_e69.2.1 ab_e69.2.2.1 ab_e69.2.2.2.1 ∈ lw_tbl := List.mem_of_getElem? (i := 490) rfl
set_option maxRecDepth 20000 in
theorem ab_pc70 : Cond.code ab_e70.1 ab_e70.2.1 ab_e70.2.2.1 ab_e70.2.2.2.1 ∈ lw_tbl := List.mem_of_getElem? (i := 494) rfl
set_option maxRecDepth 20000 in
theorem ab_pc71 : Cond.code ab_e71.1 ab_e71.2.1 ab_e71.2.2.1 ab_e71.2.2.2.1 ∈ lw_tbl := List.mem_of_getElem? (i := 498) rfl
set_option maxRecDepth 20000 in
theorem ab_pc72 : Cond.code ab_e72.1 ab_e72.2.1 ab_e72.2.2.1 ab_e72.2.2.2.1 ∈ lw_tbl := List.mem_of_getElem? (i := 503) rfl
set_option maxRecDepth 20000 in
theorem ab_pc73 : Cond.code ab_e73.1 ab_e73.2.1 ab_e73.2.2.1 ab_e73.2.2.2.1 ∈ lw_tbl := List.mem_of_getElem? (i := 507) rfl
set_option maxRecDepth 20000 in
theorem ab_pc74 : Cond.code ab_e74.1 ab_e74.2.1 ab_e74.2.2.1 ab_e74.2.2.2.1 ∈ lw_tbl := List.mem_of_getElem? (i := 514) rfl
set_option maxRecDepth 20000 in
theorem ab_pc75 : Cond.code ab_e75.1 ab_e75.2.1 ab_e75.2.2.1 ab_e75.2.2.2.1 ∈ lw_tbl := List.mem_of_getElem? (i := 519) rfl
set_option maxRecDepth 20000 in
theorem ab_pc76 : Cond.code ab_e76.1 ab_e76.2.1 ab_e76.2.2.1 ab_e76.2.2.2.1 ∈ lw_tbl := List.mem_of_getElem? (i := 523) rfl
set_option maxRecDepth 20000 in
theorem ab_pc77 : Cond.code ab_e77.1 ab_e77.2.1 ab_e77.2.2.1 ab_e77.2.2.2.1 ∈ lw_tbl := List.mem_of_getElem? (i := 527) rfl
set_option maxRecDepth 20000 in
theorem ab_pc78 : Cond.code ab_e78.1 ab_e78.2.1 ab_e78.2.2.1 ab_e78.2.2.2.1 ∈ lw_tbl := List.mem_of_getElem? (i := 531) rfl
set_option maxRecDepth 20000 in
theorem ab_pc79 : Cond.code ab_e79.1 ab_e79.2.1 ab_e79.2.2.1 ab_e79.2.2.2.1 ∈ lw_tbl := List.mem_of_getElem? (i := 537) rfl
set_option maxRecDepth 20000 in
theorem ab_pc80 : Cond.code ab_e80.1 ab_e80.2.1 ab_e80.2.2.1 ab_e80.2.2.2.1 ∈ lw_tbl := List.mem_of_getElem? (i := 541) rfl
set_option maxRecDepth 20000 in
theorem ab_pc81 : Cond.code ab_e81.1 ab_e81.2.1 ab_e81.2.2.1 ab_e81.2.2.2.1 ∈ lw_tbl := List.mem_of_getElem? (i := 546) rfl
set_option maxRecDepth 20000 in
theorem ab_pc82 : Cond.code ab_e82.1 ab_e82.2.1 ab_e82.2.2.1 ab_e82.2.2.2.1 ∈ lw_tbl := List.mem_of_getElem? (i := 550) rfl
set_option maxRecDepth 20000 in
theorem ab_pc83 : Cond.code ab_e83.1 ab_e83.2.1 ab_e83.2.2.1 ab_e83.2.2.2.1 ∈ lw_tbl := List.mem_of_getElem? (i := 555) rfl
set_option maxRecDepth 20000 in
theorem ab_pc84 : Cond.code ab_e84.1 ab_e84.2.1 ab_e84.2.2.1 ab_e84.2.2.2.1 ∈ lw_tbl := List.mem_of_getElem? (i := 559) rfl
set_option maxRecDepth 20000 in
theorem ab_pc85 : Cond.code ab_e85.1 ab_e85.2.1 ab_e85.2.2.1 ab_e85.2.2.2.1 ∈ lw_tbl := List.mem_of_getElem? (i := 564) rfl
set_option maxRecDepth 20000 in
theorem ab_pc86 : Cond.code ab_e86.1 ab_e86.2.1 ab_e86.2.2.1 ab_e86.2.2.2.1 ∈ lw_tbl := List.mem_of_getElem? (i := 568) rfl
set_option maxRecDepth 20000 in
theorem ab_pc87 : Cond.code ab_e87.1 ab_e87.2.1 ab_e87.2.2.1 ab_e87.2.2.2.1 ∈ lw_tbl := List.mem_of_getElem? (i := 572) rfl
set_option maxRecDepth 20000 in
theorem ab_pc88 : Cond.code ab_e88.1 ab_e88.2.1 ab_e88.2.2.1 ab_e88.2.2.2.1 ∈ lw_tbl := List.mem_of_getElem? (i := 577) rfl
set_option maxRecDepth 20000 in
theorem ab_pc89 : Cond.code ab_e89.1 ab_e89.2.1 ab_e89.2.2.1 ab_e89.2.2.2.1 ∈ lw_tbl := List.mem_of_getElem? (i := 583) rfl
set_option maxRecDepth 20000 in
theorem ab_pc90 : Cond.code ab_e90.1 ab_e90.2.1 ab_e90.2.2.1 ab_e90.2.2.2.1 ∈ lw_tbl := List.mem_of_getElem? (i := 588) rfl
set_option maxRecDepth 20000 in
theorem ab_pc91 : Cond.code ab_e91.1 ab_e91.2.1 ab_e91.2.2.1 ab_e91.2.2.2.1 ∈ lw_tbl := List.mem_of_getElem? (i := 592) rfl
set_option maxRecDepth 20000 in
theorem ab_pc92 : Cond.code ab_e92.1 ab_e92.2.1 ab_e92.2.2.1 ab_e92.2.2.2.1 ∈ lw_tbl := List.mem_of_getElem? (i := 596) rfl
set_option maxRecDepth 20000 in
theorem ab_pc93 : Cond.code ab_e93.1 ab_e93.2.1 ab_e93.2.2.1 ab_e93.2.2.2.1 ∈ lw_tbl := List.mem_of_getElem? (i := 602) rfl
set_option maxRecDepth 20000 in
theorem ab_pc94 : Cond.code ab_e94.1 ab_e94.2.1 ab_e94.2.2.1 ab_e94.2.2.2.1 ∈ lw_tbl := List.mem_of_getElem? (i := 606) rfl
set_option maxRecDepth 20000 in
theorem ab_pc95 : Cond.code ab_e95.1 ab_e95.2.1 ab_e95.2.2.1 ab_e95.2.2.2.1 ∈ lw_tbl := List.mem_of_getElem? (i := 610) rfl
set_option maxRecDepth 20000 in
theorem ab_pc96 : Cond.code ab_e96.1 ab_e96.2.1 ab_e96.2.2.1 ab_e96.2.2.2.1 ∈ lw_tbl := List.mem_of_getElem? (i := 614) rfl
set_option maxRecDepth 20000 in
theorem ab_pc97 : Cond.code ab_e97.1 ab_e97.2.1 ab_e97.2.2.1 ab_e97.2.2.2.1 ∈ lw_tbl := List.mem_of_getElem? (i := 618) rfl
set_option maxRecDepth 20000 in
theorem ab_pc98 : Cond.code ab_e98.1 ab_e98.2.1 ab_e98.2.2.1 ab_e98.2.2.2.1 ∈ lw_tbl := List.mem_of_getElem? (i := 622) rfl
set_option maxRecDepth 20000 in
theorem ab_pc99 : Cond.code ab_e99.1 ab_e99.2.1 ab_e99.2.2.1 ab_e99.2.2.2.1 ∈ lw_tbl := List.mem_of_getElem? (i := 626) rfl
set_option maxRecDepth 20000 in
theorem ab_pc100 : Cond.code ab_e100.1 ab_e100.2.1 ab_e100.2.2.1 ab_e100.2.2.2.1 ∈ lw_tbl := List.mem_of_getElem? (i := 630) rfl
set_option maxRecDepth 20000 in
theorem ab_pc101 : Cond.code ab_e101.1 ab_e101.2.1 ab_e101.2.2.1 ab_e101.2.2.2.1 ∈ lw_tbl := List.mem_of_getElem? (i := 634) rfl
set_option maxRecDepth 20000 in
theorem ab_pc102 : Cond.code ab_e102.1 ab_e102.2.1 ab_e102.2.2.1 ab_e102.2.2.2.1 ∈ lw_tbl := List.mem_of_getElem? (i := 638) rfl
set_option maxRecDepth 20000 in
theorem ab_pc103 : Cond.code ab_e103.1 ab_e103.2.1 ab_e103.2.2.1 ab_e103.2.2.2.1 ∈ lw_tbl := List.mem_of_getElem? (i := 642) rfl
set_option maxRecDepth 20000 in
theorem ab_pc104 : Cond.code ab_e104.1 ab_e104.2.1 ab_e104.2.2.1 ab_e104.2.2.2.1 ∈ lw_tbl := List.mem_of_getElem? (i := 650) rfl
set_option maxRecDepth 20000 in
theorem ab_pc105 : Cond.code ab_e105.1 ab_e105.2.1 ab_e105.2.2.1 ab_e105.2.2.2.1 ∈ lw_tbl := List.mem_of_getElem? (i := 731) rfl
set_option maxRecDepth 20000 in
theorem ab_pc106 : Cond.code ab_e106.1 ab_e106.2.1 ab_e106.2.2.1 ab_e106.2.2.2.1 ∈ lw_tbl := List.mem_of_getElem? (i := 734) rfl
set_option maxRecDepth 20000 in
theorem ab_pc107 : Cond.code ab_e107.1 ab_e107.2.1 ab_e107.2.2.1 ab_e107.2.2.2.1 ∈ lw_tbl := List.mem_of_getElem? (i := 738) rfl
set_option maxRecDepth 20000 in
theorem ab_pc108 : Cond.code ab_e108.1 ab_e108.2.1 ab_e108.2.2.1 ab_e108.2.2.2.1 ∈ lw_tbl := List.mem_of_getElem? (i := 742) rfl
set_option maxRecDepth 20000 in
theorem ab_pc109 : Cond.code ab_e109.1 ab_e109.2.1 ab_e109.2.2.1 ab_e109.2.2.2.1 ∈ lw_tbl := List.mem_of_getElem? (i := 746) rfl
set_option maxRecDepth 20000 in
theorem ab_pc110 : Cond.code ab_e110.1 ab_e110.2.1 ab_e110.2.2.1 ab_e110.2.2.2.1 ∈ lw_tbl := List.mem_of_getElem? (i := 750) rfl
set_option maxRecDepth 20000 in
theorem ab_pc111 : Cond.code ab_e111.1 ab_e111.2.1 ab_e111.2.2.1 ab_e111.2.2.2.1 ∈ lw_tbl := List.mem_of_getElem? (i := 754) rfl
set_option maxRecDepth 20000 in
theorem ab_pc112 : Cond.code ab_e112.1 ab_e112.2.1 ab_e112.2.2.1 ab_e112.2.2.2.1 ∈ lw_tbl := List.mem_of_getElem? (i := 758) rfl
set_option maxRecDepth 20000 in
theorem ab_pc113 : Cond.code ab_e113.1 ab_e113.2.1 ab_e113.2.2.1 ab_e113.2.2.2.1 ∈ lw_tbl := List.mem_of_getElem? (i := 763) rfl
set_option maxRecDepth 20000 in
theorem ab_pc114 : Cond.code ab_e114.1 ab_e114.2.1 ab_e114.2.2.1 ab_e114.2.2.2.1 ∈ lw_tbl := List.mem_of_getElem? (i := 767) rfl
set_option maxRecDepth 20000 in
theorem ab_pc115 : Cond.code ab_e115.1 ab_e115.2.1 ab_e115.2.2.1 ab_e115.2.2.2.1 ∈ lw_tbl := List.mem_of_getElem? (i := 770) rfl
set_option maxRecDepth 20000 in
theorem ab_pc116 : Cond.code ab_e116.1 ab_e116.2.1 ab_e116.2.2.1 ab_e116.2.2.2.1 ∈ lw_tbl := List.mem_of_getElem? (i := 774) rfl
set_option maxRecDepth 20000 in
theorem ab_pc117 : Cond.code ab_e117.1 ab_e117.2.1 ab_e117.2.2.1 ab_e117.2.2.2.1 ∈ lw_tbl := List.mem_of_getElem? (i := 778) rfl
set_option maxRecDepth 20000 in
theorem ab_pc118 : Cond.code ab_e118.1 ab_e118.2.1 ab_e118.2.2.1 ab_e118.2.2.2.1 ∈ lw_tbl := List.mem_of_getElem? (i := 781) rfl
set_option maxRecDepth 20000 in
theorem ab_pc119 : Cond.code ab_e119.1 ab_e119.2.1 ab_e119.2.2.1 ab_e119.2.2.2.1 ∈ lw_tbl := List.mem_of_getElem? (i := 786) rfl
set_option maxRecDepth 20000 in
theorem ab_pc120 : Cond.code ab_e120.1 ab_e120.2.1 ab_e120.2.2.1 ab_e120.2.2.2.1 ∈ lw_tbl := List.mem_of_getElem? (i := 790) rfl
set_option maxRecDepth 20000 in
theorem ab_pc121 : Cond.code ab_e121.1 ab_e121.2.1 ab_e121.2.2.1 ab_e121.2.2.2.1 ∈ lw_tbl := List.mem_of_getElem? (i := 794) rfl
set_option maxRecDepth 20000 in
theorem ab_pc122 : Cond.code ab_e122.1 ab_e122.2.1 ab_e122.2.2.1 ab_e122.2.2.2.1 ∈ lw_tbl := List.mem_of_getElem? (i := 798) rfl
set_option maxRecDepth 20000 in
theorem ab_pc123 : Cond.code ab_e123.1 ab_e123.2.1 ab_e123.2.2.1 ab_e123.2.2.2.1 ∈ lw_tbl := List.mem_of_getElem? (i := 802) rfl
set_option maxRecDepth 20000 in
theorem ab_pc124 : Cond.code ab_e124.1 ab_e124.2.1 ab_e124.2.2.1 ab_e124.2.2.2.1 ∈ lw_tbl := List.mem_of_getElem? (i := 806) rfl
set_option maxRecDepth 20000 in
theorem ab_pc125 : Cond.code ab_e125.1 ab_e125.2.1 ab_e125.2.2.1 ab_e125.2.2.2.1 ∈ lw_tbl := List.mem_of_getElem? (i := 809) rfl
set_option maxRecDepth 20000 in
theorem ab_pc126 : Cond.code ab_e126.1 ab_e126.2.1 ab_e126.2.2.1 ab_e126.2.2.2.1 ∈ lw_tbl := List.mem_of_getElem? (i := 813) rfl
set_option maxRecDepth 20000 in
theorem ab_pc127 : Cond.code ab_e127.1 ab_e127.2.1 ab_e127.2.2.1 ab_e127.2.2.2.1 ∈ lw_tbl := List.mem_of_getElem? (i := 816) rfl
set_option maxRecDepth 20000 in
theorem ab_pc128 : Cond.code ab_e128.1 ab_e128.2.1 ab_e128.2.2.1 ab_e128.2.2.2.1 ∈ lw_tbl := List.mem_of_getElem? (i := 820) rfl
set_option maxRecDepth 20000 in
theorem ab_pc129 : Cond.code ab_e129.1 ab_e129.2.1 ab_e129.2.2.1 ab_e129.2.2.2.1 ∈ lw_tbl := List.mem_of_getElem? (i := 824) rfl
set_option maxRecDepth 20000 in
theorem ab_pc130 : Cond.code ab_e130.1 ab_e130.2.1 ab_e130.2.2.1 ab_e130.2.2.2.1 ∈ lw_tbl := List.mem_of_getElem? (i := 828) rfl
set_option maxRecDepth 20000 in
theorem ab_pc131 : Cond.code ab_e131.1 ab_e131.2.1 ab_e131.2.2.1 ab_e131.2.2.2.1 ∈ lw_tbl := List.mem_of_getElem? (i := 832) rfl
set_option maxRecDepth 20000 in
theorem ab_pc132 : Cond.code ab_e132.1 ab_e132.2.1 ab_e132.2.2.1 ab_e132.2.2.2.1 ∈ lw_tbl := List.mem_of_getElem? (i := 837) rfl
set_option maxRecDepth 20000 in
theorem ab_pc133 : Cond.code ab_e133.1 ab_e133.2.1 ab_e133.2.2.1 ab_e133.2.2.2.1 ∈ lw_tbl := List.mem_of_getElem? (i := 841) rfl
set_option maxRecDepth 20000 in
theorem ab_pc134 : Cond.code ab_e134.1 ab_e134.2.1 ab_e134.2.2.1 ab_e134.2.2.2.1 ∈ lw_tbl := List.mem_of_getElem? (i := 845) rfl
set_option maxRecDepth 20000 in
theorem ab_pc135 : Cond.code ab_e135.1 ab_e135.2.1 ab_e135.2.2.1 ab_e135.2.2.2.1 ∈ lw_tbl := List.mem_of_getElem? (i := 848) rfl
set_option maxRecDepth 20000 in
theorem ab_pc136 : Cond.code ab_e136.1 ab_e136.2.1 ab_e136.2.2.1 ab_e136.2.2.2.1 ∈ lw_tbl := List.mem_of_getElem? (i := 852) rfl
set_option maxRecDepth 20000 in
theorem ab_pc137 : Cond.code ab_e137.1 ab_e137.2.1 ab_e137.2.2.1 ab_e137.2.2.2.1 ∈ lw_tbl := List.mem_of_getElem? (i := 856) rfl
set_option maxRecDepth 20000 in
theorem ab_pc138 : Cond.code ab_e138.1 ab_e138.2.1 ab_e138.2.2.1 ab_e138.2.2.2.1 ∈ lw_tbl := List.mem_of_getElem? (i := 859) rfl
set_option maxRecDepth 20000 in
theorem ab_pc139 : Cond.code ab_e139.1 ab_e139.2.1 ab_e139.2.2.1 ab_e139.2.2.2.1 ∈ lw_tbl := List.mem_of_getElem? (i := 862) rfl
set_option maxRecDepth 20000 in
theorem ab_pc140 : Cond.code ab_e140.1 ab_e140.2.1 ab_e140.2.2.1 ab_e140.2.2.2.1 ∈ lw_tbl := List.mem_of_getElem? (i := 866) rfl
set_option maxRecDepth 20000 in
theorem ab_pc141 : Cond.code ab_e141.1 ab_e141.2.1 ab_e141.2.2.1 ab_e141.2.2.2.1 ∈ lw_tbl := List.mem_of_getElem? (i := 869) rfl
set_option maxRecDepth 20000 in
theorem ab_pc142 : Cond.code ab_e142.1 ab_e142.2.1 ab_e142.2.2.1 ab_e142.2.2.2.1 ∈ lw_tbl := List.mem_of_getElem? (i := 874) rfl
set_option maxRecDepth 20000 in
theorem ab_pc143 : Cond.code ab_e143.1 ab_e143.2.1 ab_e143.2.2.1 ab_e143.2.2.2.1 ∈ lw_tbl := List.mem_of_getElem? (i := 878) rfl
set_option maxRecDepth 20000 in
theorem ab_pc144 : Cond.code ab_e144.1 ab_e144.2.1 ab_e144.2.2.1 ab_e144.2.2.2.1 ∈ lw_tbl := List.mem_of_getElem? (i := 882) rfl
set_option maxRecDepth 20000 in
theorem ab_pc145 : Cond.code ab_e145.1 ab_e145.2.1 ab_e145.2.2.1 ab_e145.2.2.2.1 ∈ lw_tbl := List.mem_of_getElem? (i := 886) rfl
set_option maxRecDepth 20000 in
theorem ab_pc146 : Cond.code ab_e146.1 ab_e146.2.1 ab_e146.2.2.1 ab_e146.2.2.2.1 ∈ lw_tbl := List.mem_of_getElem? (i := 890) rfl
set_option maxRecDepth 20000 in
theorem ab_pc147 : Cond.code ab_e147.1 ab_e147.2.1 ab_e147.2.2.1 ab_e147.2.2.2.1 ∈ lw_tbl := List.mem_of_getElem? (i := 894) rfl
set_option maxRecDepth 20000 in
theorem ab_pc148 : Cond.code ab_e148.1 ab_e148.2.1 ab_e148.2.2.1 ab_e148.2.2.2.1 ∈ lw_tbl := List.mem_of_getElem? (i := 898) rfl
set_option maxRecDepth 20000 in
theorem ab_pc149 : Cond.code ab_e149.1 ab_e149.2.1 ab_e149.2.2.1 ab_e149.2.2.2.1 ∈ lw_tbl := List.mem_of_getElem? (i := 901) rfl
set_option maxRecDepth 20000 in
theorem ab_pc150 : Cond.code ab_e150.1 ab_e150.2.1 ab_e150.2.2.1 ab_e150.2.2.2.1 ∈ lw_tbl := List.mem_of_getElem? (i := 905) rfl
set_option maxRecDepth 20000 in
theorem ab_pc151 : Cond.code ab_e151.1 ab_e151.2.1 ab_e151.2.2.1 ab_e151.2.2.2.1 ∈ lw_tbl := List.mem_of_getElem? (i := 909) rfl
set_option maxRecDepth 20000 in
theorem ab_pc152 : Cond.code ab_e152.1 ab_e152.2.1 ab_e152.2.2.1 ab_e152.2.2.2.1 ∈ lw_tbl := List.mem_of_getElem? (i := 913) rfl
set_option maxRecDepth 20000 in
theorem ab_pc153 : Cond.code ab_e153.1 ab_e153.2.1 ab_e153.2.2.1 ab_e153.2.2.2.1 ∈ lw_tbl := List.mem_of_getElem? (i := 918) rfl
set_option maxRecDepth 20000 in
theorem ab_pc154 : Cond.code ab_e154.1 ab_e154.2.1 ab_e154.2.2.1 ab_e154.2.2.2.1 ∈ lw_tbl := List.mem_of_getElem? (i := 922) rfl
set_option maxRecDepth 20000 in
theorem ab_pc155 : Cond.code ab_e155.1 ab_e155.2.1 ab_e155.2.2.1 ab_e155.2.2.2.1 ∈ lw_tbl := List.mem_of_getElem? (i := 926) rfl
set_option maxRecDepth 20000 in
theorem ab_pc156 : Cond.code ab_e156.1 ab_e156.2.1 ab_e156.2.2.1 ab_e156.2.2.2.1 ∈ lw_tbl := List.mem_of_getElem? (i := 930) rfl
set_option maxRecDepth 20000 in
theorem ab_pc157 : Cond.code ab_e157.1 ab_e157.2.1 ab_e157.2.2.1 ab_e157.2.2.2.1 ∈ lw_tbl := List.mem_of_getElem? (i := 934) rfl
set_option maxRecDepth 20000 in
theorem ab_pc158 : Cond.code ab_e158.1 ab_e158.2.1 ab_e158.2.2.1 ab_e158.2.2.2.1 ∈ lw_tbl := List.mem_of_getElem? (i := 938) rfl
set_option maxRecDepth 20000 in
theorem ab_pc159 : Cond.code ab_e159.1 ab_e159.2.1 ab_e159.2.2.1 ab_e159.2.2.2.1 ∈ lw_tbl := List.mem_of_getElem? (i := 942) rfl
set_option maxRecDepth 20000 in
theorem ab_pc160 : Cond.code ab_e160.1 ab_e160.2.1 ab_e160.2.2.1 ab_e160.2.2.2.1 ∈ lw_tbl := List.mem_of_getElem? (i := 946) rfl
set_option maxRecDepth 20000 in
theorem ab_pc161 : Cond.code ab_e161.1 ab_e161.2.1 ab_e161.2.2.1 ab_e161.2.2.2.1 ∈ lw_tbl := List.mem_of_getElem? (i := 950) rfl
set_option maxRecDepth 20000 in
theorem ab_pc162 : Cond.code ab_e162.1 ab_e162.2.1 ab_e162.2.2.1 ab_e162.2.2.2.1 ∈ lw_tbl := List.mem_of_getElem? (i := 954) rfl
set_option maxRecDepth 20000 in
theorem ab_pc163 : Cond.code ab_e163.1 ab_e163.2.1 ab_e163.2.2.1 ab_e163.2.2.2.1 ∈ lw_tbl := List.mem_of_getElem? (i := 958) rfl
set_option maxRecDepth 20000 in
theorem ab_pc164 : Cond.code ab_e164.1 ab_e164.2.1 ab_e164.2.2.1 ab_e164.2.2.2.1 ∈ lw_tbl := List.mem_of_getElem? (i := 962) rfl
set_option maxRecDepth 20000 in
theorem ab_pc165 : Cond.code ab_e165.1 ab_e165.2.1 ab_e165.2.2.1 ab_e165.2.2.2.1 ∈ lw_tbl := List.mem_of_getElem? (i := 966) rfl
set_option maxRecDepth 20000 in
theorem ab_pc166 : Cond.code ab_e166.1 ab_e166.2.1 ab_e166.2.2.1 ab_e166.2.2.2.1 ∈ lw_tbl := List.mem_of_getElem? (i := 970) rfl
set_option maxRecDepth 20000 in
theorem ab_pc167 : Cond.code ab_e167.1 ab_e167.2.1 ab_e167.2.2.1 ab_e167.2.2.2.1 ∈ lw_tbl := List.mem_of_getElem? (i := 974) rfl
set_option maxRecDepth 20000 in
theorem ab_pc168 : Cond.code ab_e168.1 ab_e168.2.1 ab_e168.2.2.1 ab_e168.2.2.2.1 ∈ lw_tbl := List.mem_of_getElem? (i := 978) rfl
set_option maxRecDepth 20000 in
theorem ab_pc169 : Cond.code ab_e169.1 ab_e169.2.1 ab_e169.2.2.1 ab_e169.2.2.2.1 ∈ lw_tbl := List.mem_of_getElem? (i := 982) rfl
set_option maxRecDepth 20000 in
theorem ab_pc170 : Cond.code ab_e170.1 ab_e170.2.1 ab_e170.2.2.1 ab_e170.2.2.2.1 ∈ lw_tbl := List.mem_of_getElem? (i := 986) rfl
set_option maxRecDepth 20000 in
theorem ab_pc171 : Cond.code ab_e171.1 ab_e171.2.1 ab_e171.2.2.1 ab_e171.2.2.2.1 ∈ lw_tbl := List.mem_of_getElem? (i := 990) rfl
set_option maxRecDepth 20000 in
theorem ab_pc172 : Cond.code ab_e172.1 ab_e172.2.1 ab_e172.2.2.1 ab_e172.2.2.2.1 ∈ lw_tbl := List.mem_of_getElem? (i := 995) rfl
set_option maxRecDepth 20000 in
theorem ab_pc173 : Cond.code ab_e173.1 ab_e173.2.1 ab_e173.2.2.1 ab_e173.2.2.2.1 ∈ lw_tbl := List.mem_of_getElem? (i := 999) rfl
set_option maxRecDepth 20000 in
theorem ab_pc174 : Cond.code ab_e174.1 ab_e174.2.1 ab_e174.2.2.1 ab_e174.2.2.2.1 ∈ lw_tbl := List.mem_of_getElem? (i := 1004) rfl
set_option maxRecDepth 20000 in
theorem ab_pc175 : Cond.code ab_e175.1 ab_e175.2.1 ab_e175.2.2.1 ab_e175.2.2.2.1 ∈ lw_tbl := List.mem_of_getElem? (i := 1008) rfl
set_option maxRecDepth 20000 in
theorem ab_pc176 : Cond.code ab_e176.1 ab_e176.2.1 ab_e176.2.2.1 ab_e176.2.2.2.1 ∈ lw_tbl := List.mem_of_getElem? (i := 1012) rfl
set_option maxRecDepth 20000 in
theorem ab_pc177 : Cond.code ab_e177.1 ab_e177.2.1 ab_e177.2.2.1 ab_e177.2.2.2.1 ∈ lw_tbl := List.mem_of_getElem? (i := 1016) rfl
set_option maxRecDepth 20000 in
theorem ab_pc178 : Cond.code ab_e178.1 ab_e178.2.1 ab_e178.2.2.1 ab_e178.2.2.2.1 ∈ lw_tbl := List.mem_of_getElem? (i := 1021) rfl
set_option maxRecDepth 20000 in
theorem ab_pc179 : Cond.code ab_e179.1 ab_e179.2.1 ab_e179.2.2.1 ab_e179.2.2.2.1 ∈ lw_tbl := List.mem_of_getElem? (i := 1025) rfl
set_option maxRecDepth 20000 in
theorem ab_pc180 : Cond.code ab_e180.1 ab_e180.2.1 ab_e180.2.2.1 ab_e180.2.2.2.1 ∈ lw_tbl := List.mem_of_getElem? (i := 1029) rfl
set_option maxRecDepth 20000 in
theorem ab_pc181 : Cond.code ab_e181.1 ab_e181.2.1 ab_e181.2.2.1 ab_e181.2.2.2.1 ∈ lw_tbl := List.mem_of_getElem? (i := 1037) rfl
set_option maxRecDepth 20000 in
theorem ab_pc182 : Cond.code ab_e182.1 ab_e182.2.1 ab_e182.2.2.1 ab_e182.2.2.2.1 ∈ lw_tbl := List.mem_of_getElem? (i := 1041) rfl
set_option maxRecDepth 20000 in
theorem ab_pc183 : Cond.code ab_e183.1 ab_e183.2.1 ab_e183.2.2.1 ab_e183.2.2.2.1 ∈ lw_tbl := List.mem_of_getElem? (i := 1045) rfl
set_option maxRecDepth 20000 in
theorem ab_pc184 : Cond.code ab_e184.1 ab_e184.2.1 ab_e184.2.2.1 ab_e184.2.2.2.1 ∈ lw_tbl := List.mem_of_getElem? (i := 1049) rfl
set_option maxRecDepth 20000 in
theorem ab_pc185 : Cond.code ab_e185.1 ab_e185.2.1 ab_e185.2.2.1 ab_e185.2.2.2.1 ∈ lw_tbl := List.mem_of_getElem? (i := 1053) rfl
set_option maxRecDepth 20000 in
theorem ab_pc186 : Cond.code ab_e186.1 ab_e186.2.1 ab_e186.2.2.1 ab_e186.2.2.2.1 ∈ lw_tbl := List.mem_of_getElem? (i := 1057) rfl
set_option maxRecDepth 20000 in
theorem ab_pc187 : Cond.code ab_e187.1 ab_e187.2.1 ab_e187.2.2.1 ab_e187.2.2.2.1 ∈ lw_tbl := List.mem_of_getElem? (i := 1060) rfl
set_option maxRecDepth 20000 in
theorem ab_pc188 : Cond.code ab_e188.1 ab_e188.2.1 ab_e188.2.2.1 ab_e188.2.2.2.1 ∈ lw_tbl := List.mem_of_getElem? (i := 1064) rfl
set_option maxRecDepth 20000 in
theorem ab_pc189 : Cond.code ab_e189.1 ab_e189.2.1 ab_e189.2.2.1 ab_e189.2.2.2.1 ∈ lw_tbl := List.mem_of_getElem? (i := 1068) rfl
set_option maxRecDepth 20000 in
theorem ab_pc190 : Cond.code ab_e190.1 ab_e190.2.1 ab_e190.2.2.1 ab_e190.2.2.2.1 ∈ lw_tbl := List.mem_of_getElem? (i := 1072) rfl
set_option maxRecDepth 20000 in
theorem ab_pc191 : Cond.code ab_e191.1 ab_e191.2.1 ab_e191.2.2.1 ab_e191.2.2.2.1 ∈ lw_tbl := List.mem_of_getElem? (i := 1078) rfl
def ab_mt_0 : List ab_E := [ab_e0, ab_e1, ab_e2, ab_e3, ab_e4, ab_e5, ab_e6, ab_e7, ab_e8, ab_e9, ab_e10, ab_e11, ab_e12, ab_e13, ab_e14, ab_e15]
theorem ab_pk_0 : ∀ e ∈ ab_mt_0, Cond.code e.1 e.2.1 e.2.2.1 e.2.2.2.1 ∈ lw_tbl := List.forall_mem_cons.mpr ⟨ab_pc0, List.forall_mem_cons.mpr ⟨ab_pc1, List.forall_mem_cons.mpr ⟨ab_pc2, List.forall_mem_cons.mpr ⟨ab_pc3, List.forall_mem_cons.mpr ⟨ab_pc4, List.forall_mem_cons.mpr ⟨ab_pc5, List.forall_mem_cons.mpr ⟨ab_pc6, List.forall_mem_cons.mpr ⟨ab_pc7, List.forall_mem_cons.mpr ⟨ab_pc8, List.forall_mem_cons.mpr ⟨ab_pc9, List.forall_mem_cons.mpr ⟨ab_pc10, List.forall_mem_cons.mpr ⟨ab_pc11, List.forall_mem_cons.mpr ⟨ab_pc12, List.forall_mem_cons.mpr ⟨ab_pc13, List.forall_mem_cons.mpr ⟨ab_pc14, List.forall_mem_cons.mpr ⟨ab_pc15, fun _ h => absurd h List.not_mem_nil⟩⟩⟩⟩⟩⟩⟩⟩⟩⟩⟩⟩⟩⟩⟩⟩
def ab_mt_1 : List ab_E := [ab_e16, ab_e17, ab_e18, ab_e19, ab_e20, ab_e21, ab_e22, ab_e23, ab_e24, ab_e25, ab_e26, ab_e27, ab_e28, ab_e29, ab_e30, ab_e31]
theorem ab_pk_1 : ∀ e ∈ ab_mt_1, Cond.code e.1 e.2.1 e.2.2.1 e.2.2.2.1 ∈ lw_tbl := List.forall_mem_cons.mpr ⟨ab_pc16, List.forall_mem_cons.mpr ⟨ab_pc17, List.forall_mem_cons.mpr ⟨ab_pc18, List.forall_mem_cons.mpr ⟨ab_pc19, List.forall_mem_cons.mpr ⟨ab_pc20, List.forall_mem_cons.mpr ⟨ab_pc21, List.forall_mem_cons.mpr ⟨ab_pc22, List.forall_mem_cons.mpr ⟨ab_pc23, List.forall_mem_cons.mpr ⟨ab_pc24, List.forall_mem_cons.mpr ⟨ab_pc25, List.forall_mem_cons.mpr ⟨ab_pc26, List.forall_mem_cons.mpr ⟨ab_pc27, List.forall_mem_cons.mpr ⟨ab_pc28, List.forall_mem_cons.mpr ⟨ab_pc29, List.forall_mem_cons.mpr ⟨ab_pc30, List.forall_mem_cons.mpr ⟨ab_pc31, fun _ h => absurd h List.not_mem_nil⟩⟩⟩⟩⟩⟩⟩⟩⟩⟩⟩⟩⟩⟩⟩⟩
def ab_mt_2 : List ab_E := [ab_e32, ab_e33, ab_e34, ab_e35, ab_e36, ab_e37, ab_e38, ab_e39, ab_e40, ab_e41, ab_e42, ab_e43, ab_e44, ab_e45, ab_e46, ab_e47]
theorem ab_pk_2 : ∀ e ∈ ab_mt_2, Cond.code e.1 e.2.1 e.2.2.1 e.2.2.2.1 ∈ lw_tbl := List.forall_mem_cons.mpr ⟨ab_pc32, List.forall_mem_cons.mpr ⟨ab_pc33, List.forall_mem_cons.mpr ⟨ab_pc34, List.forall_mem_cons.mpr ⟨ab_pc35, List.forall_mem_cons.mpr ⟨ab_pc36, List.forall_mem_cons.mpr ⟨ab_pc37, List.forall_mem_cons.mpr ⟨ab_pc38, List.forall_mem_cons.mpr ⟨ab_pc39, List.forall_mem_cons.mpr ⟨ab_pc40, List.forall_mem_cons.mpr ⟨ab_pc41, List.forall_mem_cons.mpr ⟨ab_pc42, List.forall_mem_cons.mpr ⟨ab_pc43, List.forall_mem_cons.mpr ⟨ab_pc44, List.forall_mem_cons.mpr ⟨ab_pc45, List.forall_mem_cons.mpr ⟨ab_pc46, List.forall_mem_cons.mpr ⟨ab_pc47, fun _ h => absurd h List.not_mem_nil⟩⟩⟩⟩⟩⟩⟩⟩⟩⟩⟩⟩⟩⟩⟩⟩
def ab_mt_3 : List ab_E := [ab_e48, ab_e49, ab_e50, ab_e51, ab_e52, ab_e53, ab_e54, ab_e55, ab_e56, ab_e57, ab_e58, ab_e59, ab_e60, ab_e61, ab_e62, ab_e63]
theorem ab_pk_3 : ∀ e ∈ ab_mt_3, Cond.code e.1 e.2.1 e.2.2.1 e.2.2.2.1 ∈ lw_tbl := List.forall_mem_cons.mpr ⟨ab_pc48, List.forall_mem_cons.mpr ⟨ab_pc49, List.forall_mem_cons.mpr ⟨ab_pc50, List.forall_mem_cons.mpr ⟨ab_pc51, List.forall_mem_cons.mpr ⟨ab_pc52, List.forall_mem_cons.mpr ⟨ab_pc53, List.forall_mem_cons.mpr ⟨ab_pc54, List.forall_mem_cons.mpr ⟨ab_pc55, List.forall_mem_cons.mpr ⟨ab_pc56, List.forall_mem_cons.mpr ⟨ab_pc57, List.forall_mem_cons.mpr ⟨ab_pc58, List.forall_mem_cons.mpr ⟨ab_pc59, List.forall_mem_cons.mpr ⟨ab_pc60, List.forall_mem_cons.mpr ⟨ab_pc61, List.forall_mem_cons.mpr ⟨ab_pc62, List.forall_mem_cons.mpr ⟨ab_pc63, fun _ h => absurd h List.not_mem_nil⟩⟩⟩⟩⟩⟩⟩⟩⟩⟩⟩⟩⟩⟩⟩⟩
def ab_mt_4 : List ab_E := [ab_e64, ab_e65, ab_e66, ab_e67, ab_e68, ab_e69, ab_e70, ab_e71, ab_e72, ab_e73, ab_e74, ab_e75, ab_e76, ab_e77, ab_e78, ab_e79]
theorem ab_pk_4 : ∀ e ∈ ab_mt_4, Cond.code e.1 e.2.1 e.2.2.1 e.2.2.2.1 ∈ lw_tbl := List.forall_mem_cons.mpr ⟨ab_pc64, List.forall_mem_cons.mpr ⟨ab_pc65, List.forall_mem_cons.mpr ⟨ab_pc66, List.forall_mem_cons.mpr ⟨ab_pc67, List.forall_mem_cons.mpr ⟨ab_pc68, List.forall_mem_cons.mpr ⟨ab_pc69, List.forall_mem_cons.mpr ⟨ab_pc70, List.forall_mem_cons.mpr ⟨ab_pc71, List.forall_mem_cons.mpr ⟨ab_pc72, List.forall_mem_cons.mpr ⟨ab_pc73, List.forall_mem_cons.mpr ⟨ab_pc74, List.forall_mem_cons.mpr ⟨ab_pc75, List.forall_mem_cons.mpr ⟨ab_pc76, List.forall_mem_cons.mpr ⟨ab_pc77, List.forall_mem_cons.mpr ⟨ab_pc78, List.forall_mem_cons.mpr ⟨ab_pc79, fun _ h => absurd h List.not_mem_nil⟩⟩⟩⟩⟩⟩⟩⟩⟩⟩⟩⟩⟩⟩⟩⟩
def ab_mt_5 : List ab_E := [ab_e80, ab_e81, ab_e82, ab_e83, ab_e84, ab_e85, ab_e86, ab_e87, ab_e88, ab_e89, ab_e90, ab_e91, ab_e92, ab_e93, ab_e94, ab_e95]
theorem ab_pk_5 : ∀ e ∈ ab_mt_5, Cond.code e.1 e.2.1 e.2.2.1 e.2.2.2.1 ∈ lw_tbl := List.forall_mem_cons.mpr ⟨ab_pc80, List.forall_mem_cons.mpr ⟨ab_pc81, List.forall_mem_cons.mpr ⟨ab_pc82, List.forall_mem_cons.mpr ⟨ab_pc83, List.forall_mem_cons.mpr ⟨ab_pc84, List.forall_mem_cons.mpr ⟨ab_pc85, List.forall_mem_cons.mpr ⟨ab_pc86, List.forall_mem_cons.mpr ⟨ab_pc87, List.forall_mem_cons.mpr ⟨ab_pc88, List.forall_mem_cons.mpr ⟨ab_pc89, List.forall_mem_cons.mpr ⟨ab_pc90, List.forall_mem_cons.mpr ⟨ab_pc91, List.forall_mem_cons.mpr ⟨ab_pc92, List.forall_mem_cons.mpr ⟨ab_pc93, List.forall_mem_cons.mpr ⟨ab_pc94, List.forall_mem_cons.mpr ⟨ab_pc95, fun _ h => absurd h List.not_mem_nil⟩⟩⟩⟩⟩⟩⟩⟩⟩⟩⟩⟩⟩⟩⟩⟩
def ab_mt_6 : List ab_E := [ab_e96, ab_e97, ab_e98, ab_e99, ab_e100, ab_e101, ab_e102, ab_e103, ab_e104, ab_e105, ab_e106, ab_e107, ab_e108, ab_e109, ab_e110, ab_e111]
theorem ab_pk_6 : ∀ e ∈ ab_mt_6, Cond.code e.1 e.2.1 e.2.2.1 e.2.2.2.1 ∈ lw_tbl := List.forall_mem_cons.mpr ⟨ab_pc96, List.forall_mem_cons.mpr ⟨ab_pc97, List.forall_mem_cons.mpr ⟨ab_pc98, List.forall_mem_cons.mpr ⟨ab_pc99, List.forall_mem_cons.mpr ⟨ab_pc100, List.forall_mem_cons.mpr ⟨ab_pc101, List.forall_mem_cons.mpr ⟨ab_pc102, List.forall_mem_cons.mpr ⟨ab_pc103, List.forall_mem_cons.mpr ⟨ab_pc104, List.forall_mem_cons.mpr ⟨ab_pc105, List.forall_mem_cons.mpr ⟨ab_pc106, List.forall_mem_cons.mpr ⟨ab_pc107, List.forall_mem_cons.mpr ⟨ab_pc108, List.forall_mem_cons.mpr ⟨ab_pc109, List.forall_mem_cons.mpr ⟨ab_pc110, List.forall_mem_cons.mpr ⟨ab_pc111, fun _ h => absurd h List.not_mem_nil⟩⟩⟩⟩⟩⟩⟩⟩⟩⟩⟩⟩⟩⟩⟩⟩
def ab_mt_7 : List ab_E := [ab_e112, ab_e113, ab_e114, ab_e115, ab_e116, ab_e117, ab_e118, ab_e119, ab_e120, ab_e121, ab_e122, ab_e123, ab_e124, ab_e125, ab_e126, ab_e127]
theorem ab_pk_7 : ∀ e ∈ ab_mt_7, Cond.code e.1 e.2.1 e.2.2.1 e.2.2.2.1 ∈ lw_tbl := List.forall_mem_cons.mpr ⟨ab_pc112, List.forall_mem_cons.mpr ⟨ab_pc113, List.forall_mem_cons.mpr ⟨ab_pc114, List.forall_mem_cons.mpr ⟨ab_pc115, List.forall_mem_cons.mpr ⟨ab_pc116, List.forall_mem_cons.mpr ⟨ab_pc117, List.forall_mem_cons.mpr ⟨ab_pc118, List.forall_mem_cons.mpr ⟨ab_pc119, List.forall_mem_cons.mpr ⟨ab_pc120, List.forall_mem_cons.mpr ⟨ab_pc121, List.forall_mem_cons.mpr ⟨ab_pc122, List.forall_mem_cons.mpr ⟨ab_pc123, List.forall_mem_cons.mpr ⟨ab_pc124, List.forall_mem_cons.mpr ⟨ab_pc125, List.forall_mem_cons.mpr ⟨ab_pc126, List.forall_mem_cons.mpr ⟨ab_pc127, fun _ h => absurd h List.not_mem_nil⟩⟩⟩⟩⟩⟩⟩⟩⟩⟩⟩⟩⟩⟩⟩⟩
def ab_mt_8 : List ab_E := [ab_e128, ab_e129, ab_e130, ab_e131, ab_e132, ab_e133, ab_e134, ab_e135, ab_e136, ab_e137, ab_e138, ab_e139, ab_e140, ab_e141, ab_e142, ab_e143]
theorem ab_pk_8 : ∀ e ∈ ab_mt_8, Cond.code e.1 e.2.1 e.2.2.1 e.2.2.2.1 ∈ lw_tbl := List.forall_mem_cons.mpr ⟨ab_pc128, List.forall_mem_cons.mpr ⟨ab_pc129, List.forall_mem_cons.mpr ⟨ab_pc130, List.forall_mem_cons.mpr ⟨ab_pc131, List.forall_mem_cons.mpr ⟨ab_pc132, List.forall_mem_cons.mpr ⟨ab_pc133, List.forall_mem_cons.mpr ⟨ab_pc134, List.forall_mem_cons.mpr ⟨ab_pc135, List.forall_mem_cons.mpr ⟨ab_pc136, List.forall_mem_cons.mpr ⟨ab_pc137, List.forall_mem_cons.mpr ⟨ab_pc138, List.forall_mem_cons.mpr ⟨ab_pc139, List.forall_mem_cons.mpr ⟨ab_pc140, List.forall_mem_cons.mpr ⟨ab_pc141, List.forall_mem_cons.mpr ⟨ab_pc142, List.forall_mem_cons.mpr ⟨ab_pc143, fun _ h => absurd h List.not_mem_nil⟩⟩⟩⟩⟩⟩⟩⟩⟩⟩⟩⟩⟩⟩⟩⟩
def ab_mt_9 : List ab_E := [ab_e144, ab_e145, ab_e146, ab_e147, ab_e148, ab_e149, ab_e150, ab_e151, ab_e152, ab_e153, ab_e154, ab_e155, ab_e156, ab_e157, ab_e158, ab_e159]
theorem ab_pk_9 : ∀ e ∈ ab_mt_9, Cond.code e.1 e.2.1 e.2.2.1 e.2.2.2.1 ∈ lw_tbl := List.forall_mem_cons.mpr ⟨ab_pc144, List.forall_mem_cons.mpr ⟨ab_pc145, List.forall_mem_cons.mpr ⟨ab_pc146, List.forall_mem_cons.mpr ⟨ab_pc147, List.forall_mem_cons.mpr ⟨ab_pc148, List.forall_mem_cons.mpr ⟨ab_pc149, List.forall_mem_cons.mpr ⟨ab_pc150, List.forall_mem_cons.mpr ⟨ab_pc151, List.forall_mem_cons.mpr ⟨ab_pc152, List.forall_mem_cons.mpr ⟨ab_pc153, List.forall_mem_cons.mpr ⟨ab_pc154, List.forall_mem_cons.mpr ⟨ab_pc155, List.forall_mem_cons.mpr ⟨ab_pc156, List.forall_mem_cons.mpr ⟨ab_pc157, List.forall_mem_cons.mpr ⟨ab_pc158, List.forall_mem_cons.mpr ⟨ab_pc159, fun _ h => absurd h List.not_mem_nil⟩⟩⟩⟩⟩⟩⟩⟩⟩⟩⟩⟩⟩⟩⟩⟩
def ab_mt_10 : List ab_E := [ab_e160, ab_e161, ab_e162, ab_e163, ab_e164, ab_e165, ab_e166, ab_e167, ab_e168, ab_e169, ab_e170, ab_e171, ab_e172, ab_e173, ab_e174, ab_e175]
theorem ab_pk_10 : ∀ e ∈ ab_mt_10, Cond.code e.1 e.2.1 e.2.2.1 e.2.2.2.1 ∈ lw_tbl := List.forall_mem_cons.mpr ⟨ab_pc160, List.forall_mem_cons.mpr ⟨ab_pc161, List.forall_mem_cons.mpr ⟨ab_pc162, List.forall_mem_cons.mpr ⟨ab_pc163, List.forall_mem_cons.mpr ⟨ab_pc164, List.forall_mem_cons.mpr ⟨ab_pc165, List.forall_mem_cons.mpr ⟨ab_pc166, List.forall_mem_cons.mpr ⟨ab_pc167, List.forall_mem_cons.mpr ⟨ab_pc168, List.forall_mem_cons.mpr ⟨ab_pc169, List.forall_mem_cons.mpr ⟨ab_pc170, List.forall_mem_cons.mpr ⟨ab_pc171, List.forall_mem_cons.mpr ⟨ab_pc172, List.forall_mem_cons.mpr ⟨ab_pc173, List.forall_mem_cons.mpr ⟨ab_pc174, List.forall_mem_cons.mpr ⟨ab_pc175, fun _ h => absurd h List.not_mem_nil⟩⟩⟩⟩⟩⟩⟩⟩⟩⟩⟩⟩⟩⟩⟩⟩
def ab_mt_11 : List ab_E := [ab_e176, ab_e177, ab_e178, ab_e179, ab_e180, ab_e181, ab_e182, ab_e183, ab_e184, ab_e185, ab_e186, ab_e187, ab_e188, ab_e189, ab_e190, ab_e191]
theorem ab_pk_11 : ∀ e ∈ ab_mt_11, Cond.code e.1 e.2.1 e.2.2.1 e.2.2.2.1 ∈ lw_tbl := List.forall_mem_cons.mpr ⟨ab_pc176, List.forall_mem_cons.mpr ⟨ab_pc177, List.forall_mem_cons.mpr ⟨ab_pc178, List.forall_mem_cons.mpr ⟨ab_pc179, List.forall_mem_cons.mpr ⟨ab_pc180, List.forall_mem_cons.mpr ⟨ab_pc181, List.forall_mem_cons.mpr ⟨ab_pc182, List.forall_mem_cons.mpr ⟨ab_pc183, List.forall_mem_cons.mpr ⟨ab_pc184, List.forall_mem_cons.mpr ⟨ab_pc185, List.forall_mem_cons.mpr ⟨ab_pc186, List.forall_mem_cons.mpr ⟨ab_pc187, List.forall_mem_cons.mpr ⟨ab_pc188, List.forall_mem_cons.mpr ⟨ab_pc189, List.forall_mem_cons.mpr ⟨ab_pc190, List.forall_mem_cons.mpr ⟨ab_pc191, fun _ h => absurd h List.not_mem_nil⟩⟩⟩⟩⟩⟩⟩⟩⟩⟩⟩⟩⟩⟩⟩⟩
set_option maxRecDepth 20000 in
theorem ab_mt_cut : ab_mt.take 192 = ab_mt_0 ++ ab_mt_1 ++ ab_mt_2 ++ ab_mt_3 ++ ab_mt_4 ++ ab_mt_5 ++ ab_mt_6 ++ ab_mt_7 ++ ab_mt_8 ++ ab_mt_9 ++ ab_mt_10 ++ ab_mt_11 := rfl
theorem ab_codes : ∀ e ∈ ab_mt.take 192, Cond.code e.1 e.2.1 e.2.2.1 e.2.2.2.1 ∈ lw_tbl := by
  rw [ab_mt_cut]
  intro e h
  simp only [List.mem_append] at h
  rcases h with ((((((((((h | h) | h) | h) | h) | h) | h) | h) | h) | h) | h) | h
  · exact ab_pk_0 e h
  · exact ab_pk_1 e h
  · exact ab_pk_2 e h
  · exact ab_pk_3 e h
  · exact ab_pk_4 e h
  · exact ab_pk_5 e h
  · exact ab_pk_6 e h
  · exact ab_pk_7 e h
  · exact ab_pk_8 e h
  · exact ab_pk_9 e h
  · exact ab_pk_10 e h
  · exact ab_pk_11 e h
theorem ab_mt_spec {M : Nat} {e : ab_E} (hM : M < 192) (h : ab_mt[M]? = some e) : Cond.code e.1 e.2.1 e.2.2.1 e.2.2.2.1 ∈ lw_tbl := ab_codes e (List.mem_of_getElem? (i := M) (by rw [List.getElem?_take_of_lt hM]; exact h))
theorem ab_w_math : Cond.static Lib.Math.max.name ∈ lw_tbl ∧ Cond.static Lib.Math.min.name ∈ lw_tbl ∧ Cond.static Lib.Math.abs.name ∈ lw_tbl ∧ Cond.initialized "java/lang/Math" ∈ lw_tbl := by decide +kernel
theorem ab_w_max : Cond.code Lib.Math.max.name Lib.Math.max.code 2 (some .int) ∈ lw_tbl := ab_mt_spec (M := 56) (by decide) rfl
theorem ab_w_min : Cond.code Lib.Math.min.name Lib.Math.min.code 2 (some .int) ∈ lw_tbl := ab_mt_spec (M := 46) (by decide) rfl
theorem ab_w_abs : Cond.code Lib.Math.abs.name Lib.Math.abs.code 1 (some .int) ∈ lw_tbl := ab_mt_spec (M := 50) (by decide) rfl
theorem ab_clsA : ∀ (ci : Nat) (r : vw_C), vwCl[ci]? = some r → (∀ w ∈ u_ws r.1 r.2.1 r.2.2, w ∈ lw_tbl) ∧ (∃ ty0 : Nat → FieldType, ∀ k, k < r.2.2 → parseFieldDescriptor (r.2.1 k).2.2.1 = some (ty0 k)) ∧ (∀ a, a < r.2.2 → ∀ b, b < r.2.2 → a ≠ b → (r.2.1 a).2.1 ≠ (r.2.1 b).2.1)
  | 0, _, h => by cases h; exact ⟨ab_iX0, ⟨tyX0, tyX0_ok⟩, nmX0⟩
  | 1, _, h => by cases h; exact ⟨ab_iX1, ⟨tyX1, tyX1_ok⟩, nmX1⟩
  | 2, _, h => by cases h; exact ⟨ab_iX2, ⟨tyX2, tyX2_ok⟩, nmX2⟩
  | 3, _, h => by cases h; exact ⟨ab_iX3, ⟨tyX3, tyX3_ok⟩, nmX3⟩
  | 4, _, h => by cases h; exact ⟨ab_iX4, ⟨tyX4, tyX4_ok⟩, nmX4⟩
  | k + 5, _, h => by simp [vwCl] at h
end
section
/-! the abstract memory as a world of the machine -/
def ab_cv (ad : Nat → Nat) (v : Value) : Value := match v with
  | .ref k => .ref (ad k)
  | v => v
def ab_ent (ad : Nat → Nat) (cA : Nat → ClassId) (h : ab_H) (k : Nat) : va_E := match (ab_sh k).1 with
  | 1 => .inl (cA 0, (ab_sh k).2.1, .inl (h.1 k))
  | 2 => .inl (cA 1, (ab_sh k).2.1, .inl (h.1 k))
  | 3 => .inl (cA 2, (ab_sh k).2.1, .inr (.inl (h.2 k)))
  | 4 => .inl (cA (3 + (ab_sh k).2.2), (ab_sh k).2.1, .inr (.inr (.inr (.inr (fun i => if i < (ab_sh k).2.1 then some (ad (ab_ra k i)) else none)))))
  | _ => .inr ((ab_sh k).2.1, (List.range (ab_nf (ab_sh k).2.1)).map (fun j => ab_cv ad (ab_fv h k (ab_sh k).2.1 j)))
def ab_w (ad : Nat → Nat) (cA : Nat → ClassId) (h : ab_H) : va_W := (List.range 73).map (fun k => (ad k, ab_ent ad cA h k))
def ab_ty (cA : Nat → ClassId) : List (ClassId × FieldType) := [(cA 0, .int), (cA 1, .byte), (cA 2, .long), (cA 3, .array .int), (cA 4, .array .byte), (cA 5, .object "AbsentPost$Post")]
theorem ab_w_get (ad : Nat → Nat) (cA : Nat → ClassId) (h : ab_H) {k : Nat} (hk : k < 73) : (ab_w ad cA h)[k]? = some (ad k, ab_ent ad cA h k) := by
  simp [ab_w, hk]
theorem ab_sh_lt {k : Nat} (h1 : (ab_sh k).1 ≠ 0) (h6 : (ab_sh k).1 ≠ 6) (h7 : (ab_sh k).1 ≠ 7) : k < 73 := by
  refine Nat.lt_of_not_le fun hk => ?_
  have e : ab_shT[k]? = none := List.getElem?_eq_none (by rw [show ab_shT.length = 73 from rfl]; exact hk)
  unfold ab_sh at h1 h6 h7
  rw [e] at h1 h6 h7
  by_cases e1 : k = 80
  · simp [e1] at h6
  · by_cases e2 : k = 81
    · simp [e2] at h7
    · simp [e1, e2] at h1
theorem ab_w_set {ad : Nat → Nat} {cA : Nat → ClassId} {h h' : ab_H} {k : Nat} {e : va_E} (hs : ∀ j, j ≠ k → ab_ent ad cA h j = ab_ent ad cA h' j) (he : e = ab_ent ad cA h' k) : (ab_w ad cA h).set k (ad k, e) = ab_w ad cA h' := by
  apply List.ext_getElem?
  intro j
  rw [List.getElem?_set]
  by_cases hj : j < 73
  · rw [ab_w_get ad cA h' hj]
    by_cases hjk : k = j
    · subst hjk
      rw [if_pos rfl, if_pos (by simpa [ab_w] using hj), he]
    · rw [if_neg hjk, ab_w_get ad cA h hj, hs j (fun q => hjk q.symm)]
  · have e1 : (ab_w ad cA h')[j]? = none := List.getElem?_eq_none (by simp [ab_w]; omega)
    have e2 : (ab_w ad cA h)[j]? = none := List.getElem?_eq_none (by simp [ab_w]; omega)
    rw [e1, e2]
    by_cases hjk : k = j
    · rw [if_pos hjk, if_neg (by simp [ab_w]; omega)]
    · rw [if_neg hjk]
theorem ab_ent_1 {ad : Nat → Nat} {cA : Nat → ClassId} {h : ab_H} {k : Nat} (e : (ab_sh k).1 = 1) : ab_ent ad cA h k = .inl (cA 0, (ab_sh k).2.1, .inl (h.1 k)) := by unfold ab_ent; rw [e]; rfl
theorem ab_ent_2 {ad : Nat → Nat} {cA : Nat → ClassId} {h : ab_H} {k : Nat} (e : (ab_sh k).1 = 2) : ab_ent ad cA h k = .inl (cA 1, (ab_sh k).2.1, .inl (h.1 k)) := by unfold ab_ent; rw [e]; rfl
theorem ab_ent_3 {ad : Nat → Nat} {cA : Nat → ClassId} {h : ab_H} {k : Nat} (e : (ab_sh k).1 = 3) : ab_ent ad cA h k = .inl (cA 2, (ab_sh k).2.1, .inr (.inl (h.2 k))) := by unfold ab_ent; rw [e]; rfl
theorem ab_ent_4 {ad : Nat → Nat} {cA : Nat → ClassId} {h : ab_H} {k : Nat} (e : (ab_sh k).1 = 4) : ab_ent ad cA h k = .inl (cA (3 + (ab_sh k).2.2), (ab_sh k).2.1, .inr (.inr (.inr (.inr (fun i => if i < (ab_sh k).2.1 then some (ad (ab_ra k i)) else none))))) := by unfold ab_ent; rw [e]; rfl
theorem ab_ent_5 {ad : Nat → Nat} {cA : Nat → ClassId} {h : ab_H} {k : Nat} (e : (ab_sh k).1 = 5) : ab_ent ad cA h k = .inr ((ab_sh k).2.1, (List.range (ab_nf (ab_sh k).2.1)).map (fun j => ab_cv ad (ab_fv h k (ab_sh k).2.1 j))) := by unfold ab_ent; rw [e]; rfl
/-- cells that hold the same are the same -/
theorem ab_ent_eq {ad : Nat → Nat} {cA : Nat → ClassId} {h h' : ab_H} {k : Nat} (e1 : h.1 k = h'.1 k) (e2 : h.2 k = h'.2 k) : ab_ent ad cA h k = ab_ent ad cA h' k := by
  have e3 : ∀ j, ab_fv h k (ab_sh k).2.1 j = ab_fv h' k (ab_sh k).2.1 j := fun j => by
    unfold ab_fv ab_gI ab_gJ
    rw [e1, e2]
  unfold ab_ent
  simp only [e1, e2, e3]
theorem ab_sI_ne {h : ab_H} {k i j : Nat} {x : Int32} (hj : j ≠ k) : (ab_sI h k i x).1 j = h.1 j ∧ (ab_sI h k i x).2 j = h.2 j := ⟨if_neg hj, rfl⟩
theorem ab_sJ_ne {h : ab_H} {k i j : Nat} {x : Int64} (hj : j ≠ k) : (ab_sJ h k i x).1 j = h.1 j ∧ (ab_sJ h k i x).2 j = h.2 j := ⟨rfl, if_neg hj⟩
theorem ab_cI_ne {h : ab_H} {a sp b dp n j : Nat} (hj : j ≠ b) : (ab_cI h a sp b dp n).1 j = h.1 j ∧ (ab_cI h a sp b dp n).2 j = h.2 j := ⟨if_neg hj, rfl⟩
theorem ab_cJ_ne {h : ab_H} {a sp b dp n j : Nat} (hj : j ≠ b) : (ab_cJ h a sp b dp n).1 j = h.1 j ∧ (ab_cJ h a sp b dp n).2 j = h.2 j := ⟨rfl, if_neg hj⟩
theorem ab_sI_eq {h : ab_H} {k i : Nat} {x : Int32} : (ab_sI h k i x).1 k = upd (h.1 k) i x := if_pos rfl
theorem ab_sJ_eq {h : ab_H} {k i : Nat} {x : Int64} : (ab_sJ h k i x).2 k = vp_updL (h.2 k) i x := if_pos rfl
theorem ab_cI_eq {h : ab_H} {a sp b dp n : Nat} : (ab_cI h a sp b dp n).1 b = va_cpy (h.1 a) (h.1 b) sp dp n := if_pos rfl
theorem ab_cJ_eq {h : ab_H} {a sp b dp n : Nat} : (ab_cJ h a sp b dp n).2 b = va_cpy (h.2 a) (h.2 b) sp dp n := if_pos rfl
theorem ab_w_sI {ad : Nat → Nat} {cA : Nat → ClassId} {h : ab_H} {k i : Nat} {x : Int32} {e : va_E} (he : e = ab_ent ad cA (ab_sI h k i x) k) : (ab_w ad cA h).set k (ad k, e) = ab_w ad cA (ab_sI h k i x) :=
  ab_w_set (fun _ hj => ab_ent_eq (ab_sI_ne hj).1.symm (ab_sI_ne hj).2.symm) he
theorem ab_w_sJ {ad : Nat → Nat} {cA : Nat → ClassId} {h : ab_H} {k i : Nat} {x : Int64} {e : va_E} (he : e = ab_ent ad cA (ab_sJ h k i x) k) : (ab_w ad cA h).set k (ad k, e) = ab_w ad cA (ab_sJ h k i x) :=
  ab_w_set (fun _ hj => ab_ent_eq (ab_sJ_ne hj).1.symm (ab_sJ_ne hj).2.symm) he
theorem ab_w_cI {ad : Nat → Nat} {cA : Nat → ClassId} {h : ab_H} {a sp b dp n : Nat} {e : va_E} (he : e = ab_ent ad cA (ab_cI h a sp b dp n) b) : (ab_w ad cA h).set b (ad b, e) = ab_w ad cA (ab_cI h a sp b dp n) :=
  ab_w_set (fun _ hj => ab_ent_eq (ab_cI_ne hj).1.symm (ab_cI_ne hj).2.symm) he
theorem ab_w_cJ {ad : Nat → Nat} {cA : Nat → ClassId} {h : ab_H} {a sp b dp n : Nat} {e : va_E} (he : e = ab_ent ad cA (ab_cJ h a sp b dp n) b) : (ab_w ad cA h).set b (ad b, e) = ab_w ad cA (ab_cJ h a sp b dp n) :=
  ab_w_set (fun _ hj => ab_ent_eq (ab_cJ_ne hj).1.symm (ab_cJ_ne hj).2.symm) he
/-- a field is set -/
theorem ab_map_set {n j : Nat} {g g' : Nat → Value} {v : Value} (hj : j < n) (h1 : g' j = v) (h2 : ∀ i, i ≠ j → g' i = g i) : ((List.range n).map g).set j v = (List.range n).map g' := by
  apply List.ext_getElem?
  intro i
  rw [List.getElem?_set]
  by_cases hij : j = i
  · subst hij
    rw [if_pos rfl, if_pos (by simpa using hj)]
    simp [hj, h1]
  · rw [if_neg hij]
    simp only [List.getElem?_map]
    cases he : (List.range n)[i]? with
    | none => rfl
    | some q =>
      have : q = i := by
        have h3 := List.getElem?_eq_some_iff.mp he
        obtain ⟨h4, h5⟩ := h3
        simpa using h5.symm
      subst this
      simp only [Option.map_some]
      rw [h2 q (fun z => hij z.symm)]
theorem ab_fv_sI {h : ab_H} {a ci j i : Nat} {x : Int32} (hij : i ≠ j) : ab_fv (ab_sI h a j x) a ci i = ab_fv h a ci i := by
  unfold ab_fv ab_gI ab_gJ
  rw [ab_sI_eq]
  have e : upd (h.1 a) j x i = h.1 a i := if_neg hij
  rw [e]
  rfl
theorem ab_fv_sJ {h : ab_H} {a ci j i : Nat} {x : Int64} (hij : i ≠ j) : ab_fv (ab_sJ h a j x) a ci i = ab_fv h a ci i := by
  unfold ab_fv ab_gI ab_gJ
  rw [ab_sJ_eq]
  have e : vp_updL (h.2 a) j x i = h.2 a i := if_neg hij
  rw [e]
  rfl
theorem ab_fv_sI_eq {h : ab_H} {a ci j : Nat} {x : Int32} (hk : ab_fk ci j = 0) : ab_fv (ab_sI h a j x) a ci j = .int x := by
  unfold ab_fv ab_gI
  rw [hk, ab_sI_eq]
  show Value.int (upd (h.1 a) j x j) = _
  rw [show upd (h.1 a) j x j = x from if_pos rfl]
theorem ab_fv_sJ_eq {h : ab_H} {a ci j : Nat} {x : Int64} (hk : ab_fk ci j = 1) : ab_fv (ab_sJ h a j x) a ci j = .long x := by
  unfold ab_fv ab_gJ
  rw [hk, ab_sJ_eq]
  show Value.long (vp_updL (h.2 a) j x j) = _
  rw [show vp_updL (h.2 a) j x j = x from if_pos rfl]
/-! locals -/
def ab_lp (ad : Nat → Nat) (lv : List Value) : List (Nat × Value) := (List.range lv.length).filterMap (fun (i : Nat) => match lv[i]? with
  | some v => if v = Value.null then none else some (i, ab_cv ad v)
  | none => none)
theorem ab_lp_mem {ad : Nat → Nat} {lv : List Value} {q : Nat × Value} : q ∈ ab_lp ad lv ↔ ∃ v, lv[q.1]? = some v ∧ v ≠ .null ∧ q.2 = ab_cv ad v := by
  unfold ab_lp
  rw [List.mem_filterMap]
  constructor
  · rintro ⟨i, hi, h⟩
    cases hv : lv[i]? with
    | none => rw [hv] at h; cases h
    | some v =>
      rw [hv] at h
      dsimp only at h
      by_cases hn : v = .null
      · rw [if_pos hn] at h; cases h
      · rw [if_neg hn] at h
        cases h
        exact ⟨v, hv, hn, rfl⟩
  · rintro ⟨v, hv, hn, he⟩
    refine ⟨q.1, List.mem_range.mpr (List.getElem?_eq_some_iff.mp hv).1, ?_⟩
    rw [hv]
    dsimp only
    rw [if_neg hn, ← he]
theorem ab_lp_at {ad : Nat → Nat} {lv : List Value} {ls : Array Slot} {n i : Nat} {v : Value} (hl : lv_has ls n (ab_lp ad lv)) (hv : lv[i]? = some v) (hn : v ≠ .null) : ls[i]? = some (.val (ab_cv ad v)) := hl.2.2 (i, ab_cv ad v) (ab_lp_mem.mpr ⟨v, hv, hn, rfl⟩)
theorem ab_cv_cat (ad : Nat → Nat) (v : Value) : (ab_cv ad v).category = v.category := by cases v <;> rfl
/-- longs stand where they may -/
def ab_Lok (lg : List Nat) (lv : List Value) : Prop := ∀ (j : Nat) (v : Value), lv[j]? = some v → v.category = 2 → lg.contains j = true
theorem ab_lp_s1 {ad : Nat → Nat} {lg : List Nat} {lv : List Value} {ls : Array Slot} {n i : Nat} {v : Value} (hL : ab_Lok lg lv) (hp : ab_nl lg i = true) (hi : i < lv.length) (h : lv_has ls n ((i, ab_cv ad v) :: (ab_lp ad lv).filter (fun q => !(q.1 == i) && !(q.1 + 1 == i && q.2.category == 2)))) : lv_has ls n (ab_lp ad (lv.set i v)) := by
  refine ⟨h.1, h.2.1, fun q hq => h.2.2 q ?_⟩
  obtain ⟨w, hw, hn, he⟩ := ab_lp_mem.mp hq
  rw [List.getElem?_set] at hw
  by_cases e : i = q.1
  · rw [if_pos e, if_pos hi] at hw
    cases hw
    rw [show q = (i, ab_cv ad v) from Prod.ext e.symm he]
    exact List.mem_cons_self
  · rw [if_neg e] at hw
    refine List.mem_cons_of_mem _ (List.mem_filter.mpr ⟨ab_lp_mem.mpr ⟨w, hw, hn, he⟩, ?_⟩)
    have e' : ¬ q.1 = i := fun z => e z.symm
    simp only [Bool.and_eq_true, Bool.not_eq_true', beq_eq_false_iff_ne, ne_eq, e', not_false_eq_true, true_and, Bool.and_eq_false_iff]
    by_cases e2 : q.1 + 1 = i
    · right
      intro hc
      rw [he, ab_cv_cat] at hc
      have h3 := hL q.1 w hw hc
      rw [← e2] at hp
      unfold ab_nl at hp
      simp only [h3] at hp
      cases hp
    · left
      exact e2
theorem ab_Lok_s1 {lg : List Nat} {lv : List Value} {i : Nat} {v : Value} (hL : ab_Lok lg lv) (hv : v.category ≠ 2) : ab_Lok lg (lv.set i v) := by
  intro j w hw hc
  rw [List.getElem?_set] at hw
  split at hw
  · split at hw
    · cases hw; exact absurd hc hv
    · cases hw
  · exact hL j w hw hc
theorem ab_lp_s2 {ad : Nat → Nat} {lg : List Nat} {lv : List Value} {ls : Array Slot} {n i : Nat} {v : Value} (hL : ab_Lok lg lv) (hp : ab_nl lg i = true) (hi : i + 1 < lv.length) (h : lv_has ls n ((i, ab_cv ad v) :: (ab_lp ad lv).filter (fun q => !(q.1 == i) && (!(q.1 == i + 1) && !(q.1 + 1 == i && q.2.category == 2))))) : lv_has ls n (ab_lp ad ((lv.set i v).set (i + 1) .null)) := by
  refine ⟨h.1, h.2.1, fun q hq => h.2.2 q ?_⟩
  obtain ⟨w, hw, hn, he⟩ := ab_lp_mem.mp hq
  rw [List.getElem?_set] at hw
  by_cases e0 : i + 1 = q.1
  · rw [if_pos e0, if_pos (by simpa using hi)] at hw
    cases hw
    exact absurd rfl hn
  rw [if_neg e0, List.getElem?_set] at hw
  by_cases e : i = q.1
  · rw [if_pos e, if_pos (by omega)] at hw
    cases hw
    rw [show q = (i, ab_cv ad v) from Prod.ext e.symm he]
    exact List.mem_cons_self
  · rw [if_neg e] at hw
    refine List.mem_cons_of_mem _ (List.mem_filter.mpr ⟨ab_lp_mem.mpr ⟨w, hw, hn, he⟩, ?_⟩)
    have e' : ¬ q.1 = i := fun z => e z.symm
    have e0' : ¬ q.1 = i + 1 := fun z => e0 z.symm
    simp only [Bool.and_eq_true, Bool.not_eq_true', beq_eq_false_iff_ne, ne_eq, e', e0', not_false_eq_true, true_and, Bool.and_eq_false_iff]
    by_cases e2 : q.1 + 1 = i
    · right
      intro hc
      rw [he, ab_cv_cat] at hc
      have h3 := hL q.1 w hw hc
      rw [← e2] at hp
      unfold ab_nl at hp
      simp only [h3] at hp
      cases hp
    · left
      exact e2
theorem ab_Lok_s2 {lg : List Nat} {lv : List Value} {i : Nat} {v : Value} (hL : ab_Lok lg lv) (hi : lg.contains i = true) : ab_Lok lg ((lv.set i v).set (i + 1) .null) := by
  refine ab_Lok_s1 ?_ (by intro q; cases q)
  intro j w hw hc
  rw [List.getElem?_set] at hw
  split at hw
  · rename_i e
    rw [← e]
    exact hi
  · exact hL j w hw hc
end
section
/-! one instruction of the abstract machine is one of the machine -/
abbrev ab_A (base : Nat) : Nat → Prop := fun q => base ≤ q
def ab_rm (d : Nat) : Room := { frames := d + 1, cells := 0, slots := 0, locals := 100 * (d + 1) }
def ab_B (D : va_G) (base : Nat) (ad : Nat → Nat) (cA : Nat → ClassId) (X : ab_X) (h : ab_H) (U : State) : Prop := base ≤ U.heap.size ∧ va_P D vwCl (ab_w ad cA h) U.heap ∧ va_K D vwCl (ab_ty cA) U ∧ va_Z "AbsentPost" "KIND_LETTERS" "[I" (.ref (ad 80)) (ab_A base) U U.heap ∧ va_T .int (ad 80) 6 (fun j => .int (ab_kl j)) (ab_A base) U U.heap ∧ va_X (ad 81) X.1 X.2 U U.heap ∧ ∀ (a : String) (i : Nat) (x : MethodName) (t : String), Cond.methodLinkNest a i x t ∈ lw_tbl → va_Nw (.methodLinkNest a i x t) U
def ab_Qc (D : va_G) (base : Nat) (ad : Nat → Nat) (cA : Nat → ClassId) (z : ab_R) : Array Value → State → Outcome → State → Prop := match z.1 with
  | none => va_Qv (fun u : ab_H => u = z.2) (fun u t => va_P D vwCl (ab_w ad cA u) t.heap) (ab_A base)
  | some (.int x) => va_Qi (fun (r : Int32) (u : ab_H) => r = x ∧ u = z.2) (fun u t => va_P D vwCl (ab_w ad cA u) t.heap) (ab_A base)
  | some (.long x) => va_Ql (fun (r : Int64) (u : ab_H) => r = x ∧ u = z.2) (fun u t => va_P D vwCl (ab_w ad cA u) t.heap) (ab_A base)
  | _ => fun _ _ _ _ => False
def ab_Ct (l : Launch) (D : va_G) (base : Nat) (ad : Nat → Nat) (cA : Nat → ClassId) (X : ab_X) (d M : Nat) (as : List Value) (h : ab_H) (z : ab_R) : Prop := ∀ e : ab_E, ab_mt[M]? = some e → Met l e.1 (.code e.1 e.2.1 e.2.2.1 e.2.2.2.1 :: ab_tb) (ab_rm d) (va_Pc (as.map (ab_cv ad)) (ab_B D base ad cA X h)) (ab_Qc D base ad cA z) 0 0 (ab_A base)
def ab_G (base : Nat) (ad : Nat → Nat) (cA : Nat → ClassId) : Prop := (∀ h, va_D (ab_A base) (ab_w ad cA h)) ∧ ad 81 < base
/-! what an answer says of its parts -/
theorem ab_lI_s {lv : List Value} {i : Nat} {k : Int32 → Option ab_R} {r : ab_R} (h : ab_lI lv i k = some r) : ∃ x, lv[i]? = some (.int x) ∧ k x = some r := by
  unfold ab_lI at h; split at h
  · exact ⟨_, by assumption, h⟩
  · cases h
theorem ab_lJ_s {lv : List Value} {i : Nat} {k : Int64 → Option ab_R} {r : ab_R} (h : ab_lJ lv i k = some r) : ∃ x, lv[i]? = some (.long x) ∧ k x = some r := by
  unfold ab_lJ at h; split at h
  · exact ⟨_, by assumption, h⟩
  · cases h
theorem ab_lR_s {lv : List Value} {i : Nat} {k : Nat → Option ab_R} {r : ab_R} (h : ab_lR lv i k = some r) : ∃ x, lv[i]? = some (.ref x) ∧ k x = some r := by
  unfold ab_lR at h; split at h
  · exact ⟨_, by assumption, h⟩
  · cases h
theorem ab_if_s {c : Prop} [Decidable c] {k : Option ab_R} {r : ab_R} (h : (if c then k else none) = some r) : c ∧ k = some r := by
  split at h
  · exact ⟨by assumption, h⟩
  · cases h
theorem ab_1I_s {st : List Value} {k : Int32 → List Value → Option ab_R} {r : ab_R} (h : ab_1I st k = some r) : ∃ x s', st = .int x :: s' ∧ k x s' = some r := by
  unfold ab_1I at h; split at h
  · exact ⟨_, _, rfl, h⟩
  · cases h
theorem ab_2I_s {st : List Value} {k : Int32 → Int32 → List Value → Option ab_R} {r : ab_R} (h : ab_2I st k = some r) : ∃ x y s', st = .int y :: .int x :: s' ∧ k x y s' = some r := by
  unfold ab_2I at h; split at h
  · exact ⟨_, _, _, rfl, h⟩
  · cases h
theorem ab_1J_s {st : List Value} {k : Int64 → List Value → Option ab_R} {r : ab_R} (h : ab_1J st k = some r) : ∃ x s', st = .long x :: s' ∧ k x s' = some r := by
  unfold ab_1J at h; split at h
  · exact ⟨_, _, rfl, h⟩
  · cases h
theorem ab_2J_s {st : List Value} {k : Int64 → Int64 → List Value → Option ab_R} {r : ab_R} (h : ab_2J st k = some r) : ∃ x y s', st = .long y :: .long x :: s' ∧ k x y s' = some r := by
  unfold ab_2J at h; split at h
  · exact ⟨_, _, _, rfl, h⟩
  · cases h
theorem ab_JI_s {st : List Value} {k : Int64 → Int32 → List Value → Option ab_R} {r : ab_R} (h : ab_JI st k = some r) : ∃ x y s', st = .int y :: .long x :: s' ∧ k x y s' = some r := by
  unfold ab_JI at h; split at h
  · exact ⟨_, _, _, rfl, h⟩
  · cases h
theorem ab_1R_s {st : List Value} {k : Nat → List Value → Option ab_R} {r : ab_R} (h : ab_1R st k = some r) : ∃ x s', st = .ref x :: s' ∧ k x s' = some r := by
  unfold ab_1R at h; split at h
  · exact ⟨_, _, rfl, h⟩
  · cases h
theorem ab_RI_s {st : List Value} {k : Nat → Int32 → List Value → Option ab_R} {r : ab_R} (h : ab_RI st k = some r) : ∃ a i s', st = .int i :: .ref a :: s' ∧ k a i s' = some r := by
  unfold ab_RI at h; split at h
  · exact ⟨_, _, _, rfl, h⟩
  · cases h
theorem ab_RII_s {st : List Value} {k : Nat → Int32 → Int32 → List Value → Option ab_R} {r : ab_R} (h : ab_RII st k = some r) : ∃ a i x s', st = .int x :: .int i :: .ref a :: s' ∧ k a i x s' = some r := by
  unfold ab_RII at h; split at h
  · exact ⟨_, _, _, _, rfl, h⟩
  · cases h
theorem ab_RIJ_s {st : List Value} {k : Nat → Int32 → Int64 → List Value → Option ab_R} {r : ab_R} (h : ab_RIJ st k = some r) : ∃ a i x s', st = .long x :: .int i :: .ref a :: s' ∧ k a i x s' = some r := by
  unfold ab_RIJ at h; split at h
  · exact ⟨_, _, _, _, rfl, h⟩
  · cases h
theorem ab_5_s {st : List Value} {k : Nat → Int32 → Nat → Int32 → Int32 → List Value → Option ab_R} {r : ab_R} (h : ab_5 st k = some r) : ∃ a sp b dp n s', st = .int n :: .int dp :: .ref b :: .int sp :: .ref a :: s' ∧ k a sp b dp n s' = some r := by
  unfold ab_5 at h; split at h
  · exact ⟨_, _, _, _, _, _, rfl, h⟩
  · cases h
theorem ab_1V_s {st : List Value} {k : Value → List Value → Option ab_R} {r : ab_R} (h : ab_1V st k = some r) : ∃ v s', st = v :: s' ∧ v.category = 1 ∧ k v s' = some r := by
  unfold ab_1V at h; split at h
  · exact ⟨_, _, rfl, ab_if_s h⟩
  · cases h
theorem ab_2V_s {st : List Value} {k : Value → Value → List Value → Option ab_R} {r : ab_R} (h : ab_2V st k = some r) : ∃ v w s', st = v :: w :: s' ∧ (v.category = 1 ∧ w.category = 1) ∧ k v w s' = some r := by
  unfold ab_2V at h; split at h
  · exact ⟨_, _, _, rfl, ab_if_s h⟩
  · cases h
theorem ab_tg_s {pc : Nat} {off : Int} {k : Nat → Option ab_R} {r : ab_R} (h : ab_tg pc off k = some r) : ∃ t : Nat, (pc : Int) + off = (t : Int) ∧ k t = some r := by
  obtain ⟨h1, h2⟩ := ab_if_s h
  exact ⟨_, (Int.toNat_of_nonneg h1).symm, h2⟩
theorem ab_dI_s {y : Int32} {k : Option ab_R} {r : ab_R} (h : ab_dI y k = some r) : ¬ y = 0 ∧ k = some r := by
  unfold ab_dI at h; split at h
  · cases h
  · exact ⟨by assumption, h⟩
theorem ab_dJ_s {y : Int64} {k : Option ab_R} {r : ab_R} (h : ab_dJ y k = some r) : ¬ y = 0 ∧ k = some r := by
  unfold ab_dJ at h; split at h
  · cases h
  · exact ⟨by assumption, h⟩
theorem ab_ob_s {a ci : Nat} {k : Option ab_R} {r : ab_R} (h : ab_ob a ci k = some r) : ((ab_sh a).1 = 5 ∧ (ab_sh a).2.1 = ci) ∧ k = some r := ab_if_s h
theorem ab_pf_s {h : ab_H} {ci j : Nat} {st : List Value} {k : ab_H → List Value → Option ab_R} {r : ab_R} (q : ab_pf h ci j st k = some r) : (ab_fk ci j = 0 ∧ ∃ x a s', st = .int x :: .ref a :: s' ∧ ((ab_sh a).1 = 5 ∧ (ab_sh a).2.1 = ci) ∧ k (ab_sI h a j x) s' = some r) ∨ (ab_fk ci j = 1 ∧ ∃ x a s', st = .long x :: .ref a :: s' ∧ ((ab_sh a).1 = 5 ∧ (ab_sh a).2.1 = ci) ∧ k (ab_sJ h a j x) s' = some r) := by
  unfold ab_pf at q
  split at q
  · split at q
    · exact Or.inl ⟨by assumption, _, _, _, rfl, ab_ob_s q⟩
    · cases q
  · split at q
    · exact Or.inr ⟨by assumption, _, _, _, rfl, ab_ob_s q⟩
    · cases q
  · cases q
theorem ab_lt_ge {x y : Int32} (h : ¬ x < y) : y ≤ x := Int32.not_lt.mp h
theorem ab_bI_s {c : Jvm.ClassFile.Cond} {x y : Int32} {k1 k2 : Option ab_R} {r : ab_R} (h : ab_bI c x y k1 k2 = some r) : (match c with
  | .eq => (x = y → k1 = some r) ∧ (¬ x = y → k2 = some r)
  | .ne => (¬ x = y → k1 = some r) ∧ (x = y → k2 = some r)
  | .lt => (x < y → k1 = some r) ∧ (¬ x < y → k2 = some r)
  | .ge => (y ≤ x → k1 = some r) ∧ (¬ y ≤ x → k2 = some r)
  | .gt => (y < x → k1 = some r) ∧ (¬ y < x → k2 = some r)
  | .le => (x ≤ y → k1 = some r) ∧ (¬ x ≤ y → k2 = some r)) := by
  cases c <;> unfold ab_bI at h <;> dsimp only at h ⊢
  · exact ⟨fun e => by rw [if_pos e] at h; exact h, fun e => by rw [if_neg e] at h; exact h⟩
  · exact ⟨fun e => by rw [if_neg e] at h; exact h, fun e => by rw [if_pos e] at h; exact h⟩
  · exact ⟨fun e => by rw [if_pos e] at h; exact h, fun e => by rw [if_neg e] at h; exact h⟩
  · exact ⟨fun e => by rw [if_neg (Int32.not_lt.mpr e)] at h; exact h, fun e => by rw [if_pos (Int32.not_le.mp e)] at h; exact h⟩
  · exact ⟨fun e => by rw [if_pos e] at h; exact h, fun e => by rw [if_neg e] at h; exact h⟩
  · exact ⟨fun e => by rw [if_neg (Int32.not_lt.mpr e)] at h; exact h, fun e => by rw [if_pos (Int32.not_le.mp e)] at h; exact h⟩
theorem ab_ts_s {pc : Nat} {x : Int32} {d lo hi : Int} {offs : Array Int} {k : Nat → Option ab_R} {r : ab_R} (h : ab_ts pc x d lo hi offs k = some r) : ((x.toInt < lo ∨ hi < x.toInt) ∧ ∃ t : Nat, (pc : Int) + d = (t : Int) ∧ k t = some r) ∨ ((¬ x.toInt < lo ∧ ¬ hi < x.toInt) ∧ ∃ off, offs[(x.toInt - lo).toNat]? = some off ∧ ∃ t : Nat, (pc : Int) + off = (t : Int) ∧ k t = some r) := by
  unfold ab_ts at h
  split at h
  · exact Or.inl ⟨by assumption, ab_tg_s h⟩
  · rename_i e
    right
    split at h
    · exact ⟨⟨fun z => e (Or.inl z), fun z => e (Or.inr z)⟩, _, by assumption, ab_tg_s h⟩
    · cases h
theorem ab_ld_s {X : ab_X} {h : ab_H} {a : Nat} {i : Int32} {k : Int32 → Option ab_R} {r : ab_R} (q : ab_ld X h a i k = some r) : (ab_in 1 a i ∧ k (ab_gI h a i.toNatClampNeg) = some r) ∨ (ab_in 6 a i ∧ k (ab_kl i.toNatClampNeg) = some r) ∨ (((ab_sh a).1 = 7 ∧ vp_in i X.1) ∧ k (X.2 i.toNatClampNeg) = some r) := by
  unfold ab_ld at q
  split at q
  · exact Or.inl ⟨ab_inB_iff.mp (by assumption), q⟩
  · split at q
    · exact Or.inr (Or.inl ⟨ab_inB_iff.mp (by assumption), q⟩)
    · obtain ⟨h1, h2⟩ := ab_if_s q
      refine Or.inr (Or.inr ⟨?_, h2⟩)
      simpa [vp_in] using h1
theorem ab_ln_s {X : ab_X} {a : Nat} {k : Int32 → Option ab_R} {r : ab_R} (q : ab_ln X a k = some r) : (((ab_sh a).1 = 1 ∨ (ab_sh a).1 = 2) ∧ k (Int32.ofNat (ab_sh a).2.1) = some r) ∨ ((ab_sh a).1 = 6 ∧ k 6 = some r) ∨ ((ab_sh a).1 = 7 ∧ k (Int32.ofNat X.1) = some r) := by
  unfold ab_ln at q
  split at q
  · exact Or.inl ⟨by assumption, q⟩
  · split at q
    · exact Or.inr (Or.inl ⟨by assumption, q⟩)
    · exact Or.inr (Or.inr (ab_if_s q))
theorem ab_cp_s {h : ab_H} {a : Nat} {sp : Int32} {b : Nat} {dp n : Int32} {k : ab_H → Option ab_R} {r : ab_R} (q : ab_cp h a sp b dp n k = some r) : (¬ sp < 0 ∧ ¬ dp < 0 ∧ ¬ n < 0 ∧ sp.toNatClampNeg + n.toNatClampNeg ≤ (ab_sh a).2.1 ∧ dp.toNatClampNeg + n.toNatClampNeg ≤ (ab_sh b).2.1) ∧ ((((ab_sh a).1 = 1 ∧ (ab_sh b).1 = 1) ∧ k (ab_cI h a sp.toNatClampNeg b dp.toNatClampNeg n.toNatClampNeg) = some r) ∨ (((ab_sh a).1 = 3 ∧ (ab_sh b).1 = 3) ∧ k (ab_cJ h a sp.toNatClampNeg b dp.toNatClampNeg n.toNatClampNeg) = some r)) := by
  unfold ab_cp at q
  split at q
  · cases q
  · rename_i e
    simp only [not_or, Nat.not_lt] at e
    refine ⟨e, ?_⟩
    split at q
    · exact Or.inl ⟨by assumption, q⟩
    · exact Or.inr (ab_if_s q)
theorem ab_sh_k {a t : Nat} (h : (ab_sh a).1 = t) (h0 : 0 < t) (h5 : t ≤ 5) : a < 73 := ab_sh_lt (by omega) (by omega) (by omega)
theorem ab_cal_s {st : List Value} {n : Nat} {k : List Value → List Value → Option ab_R} {r : ab_R} (h : ab_cal st n k = some r) : n ≤ st.length ∧ ab_ws (st.drop n) ≤ 8 ∧ k (st.take n).reverse (st.drop n) = some r := by
  obtain ⟨h1, h2⟩ := ab_if_s h
  exact ⟨h1.1, h1.2, h2⟩
theorem ab_ws_cv (ad : Nat → Nat) (st : List Value) : ((st.map (ab_cv ad)).map fun v => v.category).sum = ab_ws st := by
  unfold ab_ws
  rw [List.map_map]
  congr 1
  apply List.map_congr_left
  intro v _
  exact ab_cv_cat ad v
end
section
theorem ab_blind (D : va_G) (base : Nat) (ad : Nat → Nat) (cA : Nat → ClassId) (X : ab_X) (h : ab_H) (av : List Value) : FrameBlind (va_Pc av (ab_B D base ad cA X h)) := by
  intro a U g mk q
  obtain ⟨q0, q1, q2, q3, q4, q5, q6, q7⟩ := q
  exact ⟨q0, q1, q2, va_K.moved (u := U) (U := U.calling g mk a) (Vm.Alike.refl U.vm) q3, va_Z.moved (u := U) (U := U.calling g mk a) (Vm.Alike.refl U.vm) q4, va_T.moved (u := U) (U := U.calling g mk a) (Vm.Alike.refl U.vm) q5, va_X.moved (u := U) (U := U.calling g mk a) (Vm.Alike.refl U.vm) q6, fun a' i x t hw => va_Nw.same rfl (u := U) (U := U.calling g mk a) rfl (q7 a' i x t hw)⟩
section
variable {p : Program} {l : Launch} {e : Env} {R : Room} {s : State} {m : MethodId} {args : Array Value} {below : List Frame} {meth : Method} {c : Code} {H : Heap} {locs : List Loc} {cells slots : Nat} {Q : State → Prop}
variable {D : va_G} {base : Nat} {ad : Nat → Nat} {cA : Nat → ClassId} {X : ab_X}
theorem ab_pre {h : ab_H} (hG : ab_G base ad cA) (hB : ab_B D base ad cA X h s) {h2 : ab_H} (hP : va_P D vwCl (ab_w ad cA h2) H) (hS : va_S (ab_A base) s.heap H locs) {U : State} (hU : U.heap = H) (hW : s.WarmedH U.vm) : ab_B D base ad cA X h2 U := by
  obtain ⟨b0, b1, b2, b3, b4, b5, b6⟩ := hB
  subst hU
  have hlt : ad 81 < s.heap.size := Nat.lt_of_lt_of_le hG.2 b0
  exact ⟨Nat.le_trans b0 hS.1, hP, va_K.moved hW.alike b2, (va_Z.moved hW.alike b3).kept hS.2.1, (va_T.moved hW.alike b4).kept hS.2.1, (va_X.moved hW.alike b5).kept (hS.2.1 _ hlt (Nat.not_le.mpr hG.2)), fun a i x t hw => (b6 a i x t hw).warmM hW⟩
/-- behind a call -/
theorem ab_back {pc : Nat} {ls : Array Slot} {st0 : List Value} {rest : List Value} {z : ab_R} {av : Array Value} (hr : va_Run p l e R s m args below meth c H locs cells slots 0 0 (F0 m pc ls st0) (rest.map (ab_cv ad)) (ab_Qc D base ad cA z av) (ab_A base)) (hS : va_S (ab_A base) s.heap H locs)
    (K : ∀ (H1 : Heap) (locs1 : List Loc), va_P D vwCl (ab_w ad cA z.2) H1 → va_S (ab_A base) s.heap H1 locs1 → W p l e R s m args below meth c H1 locs1 cells slots Q (F0 m (pc + 3) ls ((ab_pu z.1 rest).map (ab_cv ad)))) : W p l e R s m args below meth c H locs cells slots Q (F0 m pc ls st0) := by
  obtain ⟨v, h1⟩ := z
  cases v with
  | none =>
    refine va_callv (a := av) (post := fun u : ab_H => u = h1) (B := fun u t => va_P D vwCl (ab_w ad cA u) t.heap) hr hS (fun q _ h => h) (fun q h => h) (fun u t H1 locs1 ht hvm hw hB hz1 hk1 hS1 => ?_)
    subst hw
    rw [ht] at hB
    exact K H1 locs1 hB hS1
  | some v =>
    cases v with
    | int x =>
      refine va_calli (a := av) (post := fun (r : Int32) (u : ab_H) => r = x ∧ u = h1) (B := fun u t => va_P D vwCl (ab_w ad cA u) t.heap) hr hS (fun q _ h => h) (fun q h => h) (fun r u t H1 locs1 ht hvm hw hB hz1 hk1 hS1 => ?_)
      obtain ⟨rfl, rfl⟩ := hw
      rw [ht] at hB
      exact K H1 locs1 hB hS1
    | long x =>
      refine va_calll (a := av) (post := fun (r : Int64) (u : ab_H) => r = x ∧ u = h1) (B := fun u t => va_P D vwCl (ab_w ad cA u) t.heap) hr hS (fun q _ h => h) (fun q h => h) (fun r u t H1 locs1 ht hvm hw hB hz1 hk1 hS1 => ?_)
      obtain ⟨rfl, rfl⟩ := hw
      rw [ht] at hB
      exact K H1 locs1 hB hS1
    | _ =>
      intro T hT Y
      obtain ⟨_, _, _, _, _, _, _, _, _, _, hq, _⟩ := hr T hT Y
      exact False.elim hq
theorem ab_goodIn {M : Nat} {E : ab_E} (hM : M < 192) (h : ab_mt[M]? = some E) : GoodIn ab_tb (Cond.code E.1 E.2.1 E.2.2.1 E.2.2.2.1 :: ab_tb) := by
  intro w hw
  have hm : w ∈ ab_tb := by
    rcases List.mem_cons.mp hw with rfl | hw
    · exact ab_tb_in (ab_mt_spec hM h) rfl
    · exact hw
  exact ⟨hm, good_of_word (List.mem_filter.mp hm).2⟩
/-- a call of a method of the table -/
theorem ab_callB {o idx d : Nat} {q : Nat × Nat × Nat × Nat × Nat × Nat × Nat} {E : ab_E} (hts : ∀ w ∈ ab_tb, w.before args s = true) (hq : ab_mt[q.1]? = some E) (hM : q.1 < 192) (hn : (parseMethodDescriptor E.1.desc).map (fun d => d.parameters.length) = some q.2.1) (hi : Cond.initialized E.1.cls ∈ lw_tbl) (hml : E.2.2.1 ≤ 80) (hcls : E.1.cls ≠ "java/lang/invoke/MethodHandle" ∧ E.1.cls ≠ "java/lang/invoke/VarHandle") (hlk : Cond.methodLink (ab_onm o) idx E.1 ∈ lw_tbl) (hR : d + 1 + 1 ≤ R.frames ∧ 100 * (d + 1 + 1) ≤ R.locals) :
    CallB R s args (ab_onm o) idx E.1 E.2.1 E.2.2.1 E.2.2.2.1 (Cond.code E.1 E.2.1 E.2.2.1 E.2.2.2.1 :: ab_tb) (ab_rm d) 0 0 q.2.1 :=
  callB_of q.2.1 hts (ab_goodIn hM hq) rfl rfl rfl (hts _ (ab_tb_in hi rfl)) (hts _ (ab_tb_in hlk rfl)) ⟨hcls.1, hcls.2, hn⟩ ⟨hR.1, by show 8 + (E.2.2.1 + 11) + 100 * (d + 1) ≤ R.locals; have := hR.2; omega⟩
set_option maxHeartbeats 8000000 in
set_option maxRecDepth 10000 in
theorem ab_step {cc : ByteArray} {nL o d : Nat} {rt : Option FieldType} {lg : List Nat} {ins : Instr} {len pc : Nat} {lv st : List Value} {h h0 : ab_H} {r : ab_R} {kn : ab_KN} {kc : ab_KC} {ls : Array Slot}
    (hx : p.tables.exec = Jvm.exec) (hb : c.code = cc) (hml : c.maxLocals = nL) (hown : s.vm.findClass (ab_onm o) = some m.cls) (hts : ∀ w ∈ ab_tb, w.before args s = true) (hG : ab_G base ad cA) (hB : ab_B D base ad cA X h0 s) (hR : d + 1 ≤ R.frames ∧ 100 * (d + 1) ≤ R.locals) (hcs : cells ≤ R.cells ∧ slots ≤ R.slots)
    (hd : ∀ n, n = (match ins with
      | .bipush _ | .iload _ | .lload _ | .aload _ | .istore _ | .lstore _ | .astore _ => 2
      | .sipush _ | .ldc2_w _ | .ldc_w _ | .iinc _ _ | .ifCond _ _ | .if_icmp _ _ | .goto _ | .getfield _ | .putfield _ | .getstatic _ | .invokestatic _ | .invokevirtual _ => 3
      | .tableswitch _ _ _ _ => len
      | _ => 1) → decode cc pc = .ok (ins, n))
    (hP : va_P D vwCl (ab_w ad cA h) H) (hS : va_S (ab_A base) s.heap H locs) (hl : lv_has ls nL (ab_lp ad lv)) (hn : lv.length = nL) (hL : ab_Lok lg lv)
    (IHn : ∀ pc lv st h, kn pc lv st h = some r → ∀ H locs ls, va_P D vwCl (ab_w ad cA h) H → va_S (ab_A base) s.heap H locs → lv_has ls nL (ab_lp ad lv) → lv.length = nL → ab_Lok lg lv → W p l e R s m args below meth c H locs cells slots Q (F0 m pc ls (st.map (ab_cv ad))))
    (IHc : ∀ m' as h k, kc m' as h k = some r → ∃ z d', k z = some r ∧ d = d' + 1 ∧ ((ab_la0 as).length ≤ ab_ml m' ∧ ab_okL (ab_Lg m') (ab_la0 as) = true → m' < 192 → (∀ E, ab_mt[m']? = some E → plainName E.1.cls = true ∧ ab_onm E.2.2.2.2.1 = E.1.cls) → ab_Ct l D base ad cA X d' m' as h z))
    (hend : ∀ H locs ls, va_P D vwCl (ab_w ad cA r.2) H → va_S (ab_A base) s.heap H locs → (match r.1 with
      | none => rt = none ∧ decode cc pc = .ok (.return_, 1) ∧ st = []
      | some (.int x) => ab_rk rt x = true ∧ decode cc pc = .ok (.ireturn, 1) ∧ st = [.int x]
      | some (.long x) => rt = some .long ∧ decode cc pc = .ok (.lreturn, 1) ∧ st = [.long x]
      | _ => False) → W p l e R s m args below meth c H locs cells slots Q (F0 m pc ls (st.map (ab_cv ad))))
    (q : ab_st X o rt lg ins pc lv st h kn kc = some r) : W p l e R s m args below meth c H locs cells slots Q (F0 m pc ls (st.map (ab_cv ad))) := by
  have hlt : ∀ {x : Nat}, ¬ (ab_A base) x → x < base := fun h => Nat.lt_of_not_le h
  have hK := hB.2.2.1
  have hDD := hG.1
  cases ins with
  | iconst n => exact lv_iconst hx hb (hd _ rfl) rfl (IHn _ _ _ _ q _ _ _ hP hS hl hn hL)
  | bipush n => exact lv_bipush hx hb (hd _ rfl) rfl (IHn _ _ _ _ q _ _ _ hP hS hl hn hL)
  | sipush n => exact lv_sipush hx hb (hd _ rfl) rfl (IHn _ _ _ _ q _ _ _ hP hS hl hn hL)
  | lconst n => exact lv_lconst hx hb (hd _ rfl) rfl (IHn _ _ _ _ q _ _ _ hP hS hl hn hL)
  | ldc2_w i =>
    have q : (ab_kj o i).bind _ = some r := q
    obtain ⟨w, hw, q⟩ := Option.bind_eq_some_iff.mp q
    exact lv_ldc2 hx hb hown (hts _ (ab_tb_in (ab_kj_spec hw) rfl)) (hd _ rfl) (IHn _ _ _ _ q _ _ _ hP hS hl hn hL)
  | ldc_w i =>
    have q : (ab_ki o i).bind _ = some r := q
    obtain ⟨w, hw, q⟩ := Option.bind_eq_some_iff.mp q
    exact lv_ldcw hx hb hown (hts _ (ab_tb_in (ab_ki_spec hw) rfl)) (hd _ rfl) (IHn _ _ _ _ q _ _ _ hP hS hl hn hL)
  | iload_n i =>
    obtain ⟨x, hv, q⟩ := ab_lI_s q
    exact lv_iload_n hx hb (hd _ rfl) rfl (ab_lp_at hl hv (by intro z; cases z)) (IHn _ _ _ _ q _ _ _ hP hS hl hn hL)
  | iload i =>
    obtain ⟨x, hv, q⟩ := ab_lI_s q
    exact lv_iload hx hb (hd _ rfl) (ab_lp_at hl hv (by intro z; cases z)) (IHn _ _ _ _ q _ _ _ hP hS hl hn hL)
  | lload_n i =>
    obtain ⟨x, hv, q⟩ := ab_lJ_s q
    exact lv_lload_n hx hb (hd _ rfl) rfl (ab_lp_at hl hv (by intro z; cases z)) (IHn _ _ _ _ q _ _ _ hP hS hl hn hL)
  | lload i =>
    obtain ⟨x, hv, q⟩ := ab_lJ_s q
    exact lv_lload hx hb (hd _ rfl) (ab_lp_at hl hv (by intro z; cases z)) (IHn _ _ _ _ q _ _ _ hP hS hl hn hL)
  | aload_n i =>
    obtain ⟨x, hv, q⟩ := ab_lR_s q
    exact lv_aload_n hx hb (hd _ rfl) rfl (ab_lp_at hl hv (by intro z; cases z)) (IHn _ _ _ _ q _ _ _ hP hS hl hn hL)
  | aload i =>
    obtain ⟨x, hv, q⟩ := ab_lR_s q
    exact lv_aload hx hb (hd _ rfl) (ab_lp_at hl hv (by intro z; cases z)) (IHn _ _ _ _ q _ _ _ hP hS hl hn hL)
  | istore_n i =>
    obtain ⟨x, s', rfl, q⟩ := ab_1I_s q
    obtain ⟨⟨h1, h2⟩, q⟩ := ab_if_s q
    exact lv_istore_n hx hb (hd _ rfl) rfl hl (by omega) rfl (fun ls' hl' => IHn _ _ _ _ q _ _ _ hP hS (ab_lp_s1 hL h1 h2 hl') (by rw [List.length_set]; exact hn) (ab_Lok_s1 hL (by intro z; cases z)))
  | istore i =>
    obtain ⟨x, s', rfl, q⟩ := ab_1I_s q
    obtain ⟨⟨h1, h2⟩, q⟩ := ab_if_s q
    exact lv_istore hx hb (hd _ rfl) hl (by omega) rfl (fun ls' hl' => IHn _ _ _ _ q _ _ _ hP hS (ab_lp_s1 hL h1 h2 hl') (by rw [List.length_set]; exact hn) (ab_Lok_s1 hL (by intro z; cases z)))
  | astore_n i =>
    obtain ⟨x, s', rfl, q⟩ := ab_1R_s q
    obtain ⟨⟨h1, h2⟩, q⟩ := ab_if_s q
    exact lv_astore_n hx hb (hd _ rfl) rfl hl (by omega) rfl (fun ls' hl' => IHn _ _ _ _ q _ _ _ hP hS (ab_lp_s1 hL h1 h2 hl') (by rw [List.length_set]; exact hn) (ab_Lok_s1 hL (by intro z; cases z)))
  | astore i =>
    obtain ⟨x, s', rfl, q⟩ := ab_1R_s q
    obtain ⟨⟨h1, h2⟩, q⟩ := ab_if_s q
    exact lv_astore hx hb (hd _ rfl) hl (by omega) rfl (fun ls' hl' => IHn _ _ _ _ q _ _ _ hP hS (ab_lp_s1 hL h1 h2 hl') (by rw [List.length_set]; exact hn) (ab_Lok_s1 hL (by intro z; cases z)))
  | lstore_n i =>
    obtain ⟨x, s', rfl, q⟩ := ab_1J_s q
    obtain ⟨⟨⟨h1, h3⟩, h2⟩, q⟩ := ab_if_s q
    exact lv_lstore_n hx hb (hd _ rfl) rfl hl (by omega) rfl (fun ls' hl' => IHn _ _ _ _ q _ _ _ hP hS (ab_lp_s2 hL h1 h2 hl') (by rw [List.length_set, List.length_set]; exact hn) (ab_Lok_s2 hL h3))
  | lstore i =>
    obtain ⟨x, s', rfl, q⟩ := ab_1J_s q
    obtain ⟨⟨⟨h1, h3⟩, h2⟩, q⟩ := ab_if_s q
    exact lv_lstore hx hb (hd _ rfl) hl (by omega) rfl (fun ls' hl' => IHn _ _ _ _ q _ _ _ hP hS (ab_lp_s2 hL h1 h2 hl') (by rw [List.length_set, List.length_set]; exact hn) (ab_Lok_s2 hL h3))
  | iinc i n =>
    obtain ⟨x, hv, q⟩ := ab_lI_s q
    obtain ⟨⟨h1, h2⟩, q⟩ := ab_if_s q
    have hm : (i, Value.int x) ∈ ab_lp ad lv := ab_lp_mem.mpr ⟨.int x, hv, (by intro z; cases z), rfl⟩
    obtain ⟨k, hk⟩ := List.getElem?_of_mem hm
    exact lv_iinc hx hb (hd _ rfl) hl hk rfl (by omega) rfl (fun ls' hl' => IHn _ _ _ _ q _ _ _ hP hS (ab_lp_s1 hL h1 h2 hl') (by rw [List.length_set]; exact hn) (ab_Lok_s1 hL (by intro z; cases z)))
  | iadd => obtain ⟨x, y, s', rfl, q⟩ := ab_2I_s q; exact lv_iadd hx hb (hd _ rfl) (IHn _ _ _ _ q _ _ _ hP hS hl hn hL)
  | isub => obtain ⟨x, y, s', rfl, q⟩ := ab_2I_s q; exact lv_isub hx hb (hd _ rfl) (IHn _ _ _ _ q _ _ _ hP hS hl hn hL)
  | imul => obtain ⟨x, y, s', rfl, q⟩ := ab_2I_s q; exact lv_imul hx hb (hd _ rfl) (IHn _ _ _ _ q _ _ _ hP hS hl hn hL)
  | iand => obtain ⟨x, y, s', rfl, q⟩ := ab_2I_s q; exact lv_iand hx hb (hd _ rfl) (IHn _ _ _ _ q _ _ _ hP hS hl hn hL)
  | ior => obtain ⟨x, y, s', rfl, q⟩ := ab_2I_s q; exact lv_ior hx hb (hd _ rfl) (IHn _ _ _ _ q _ _ _ hP hS hl hn hL)
  | ixor => obtain ⟨x, y, s', rfl, q⟩ := ab_2I_s q; exact lv_ixor hx hb (hd _ rfl) (IHn _ _ _ _ q _ _ _ hP hS hl hn hL)
  | ishl => obtain ⟨x, y, s', rfl, q⟩ := ab_2I_s q; exact lv_ishl hx hb (hd _ rfl) (IHn _ _ _ _ q _ _ _ hP hS hl hn hL)
  | ishr => obtain ⟨x, y, s', rfl, q⟩ := ab_2I_s q; exact lv_ishr hx hb (hd _ rfl) (IHn _ _ _ _ q _ _ _ hP hS hl hn hL)
  | iushr => obtain ⟨x, y, s', rfl, q⟩ := ab_2I_s q; exact lv_iushr hx hb (hd _ rfl) rfl (IHn _ _ _ _ q _ _ _ hP hS hl hn hL)
  | idiv =>
    obtain ⟨x, y, s', rfl, q⟩ := ab_2I_s q
    obtain ⟨hz, q⟩ := ab_dI_s q
    exact lv_idiv hx hb (hd _ rfl) hz (IHn _ _ _ _ q _ _ _ hP hS hl hn hL)
  | irem =>
    obtain ⟨x, y, s', rfl, q⟩ := ab_2I_s q
    obtain ⟨hz, q⟩ := ab_dI_s q
    exact lv_irem hx hb (hd _ rfl) hz (IHn _ _ _ _ q _ _ _ hP hS hl hn hL)
  | ineg => obtain ⟨x, s', rfl, q⟩ := ab_1I_s q; exact lv_ineg hx hb (hd _ rfl) (IHn _ _ _ _ q _ _ _ hP hS hl hn hL)
  | i2l => obtain ⟨x, s', rfl, q⟩ := ab_1I_s q; exact lv_i2l hx hb (hd _ rfl) rfl (IHn _ _ _ _ q _ _ _ hP hS hl hn hL)
  | i2b => obtain ⟨x, s', rfl, q⟩ := ab_1I_s q; exact lv_i2b hx hb (hd _ rfl) rfl (IHn _ _ _ _ q _ _ _ hP hS hl hn hL)
  | l2i => obtain ⟨x, s', rfl, q⟩ := ab_1J_s q; exact lv_l2i hx hb (hd _ rfl) rfl (IHn _ _ _ _ q _ _ _ hP hS hl hn hL)
  | ladd => obtain ⟨x, y, s', rfl, q⟩ := ab_2J_s q; exact lv_ladd hx hb (hd _ rfl) (IHn _ _ _ _ q _ _ _ hP hS hl hn hL)
  | lmul => obtain ⟨x, y, s', rfl, q⟩ := ab_2J_s q; exact lv_lmul hx hb (hd _ rfl) (IHn _ _ _ _ q _ _ _ hP hS hl hn hL)
  | land => obtain ⟨x, y, s', rfl, q⟩ := ab_2J_s q; exact lv_land hx hb (hd _ rfl) (IHn _ _ _ _ q _ _ _ hP hS hl hn hL)
  | lor => obtain ⟨x, y, s', rfl, q⟩ := ab_2J_s q; exact lv_lor hx hb (hd _ rfl) (IHn _ _ _ _ q _ _ _ hP hS hl hn hL)
  | ldiv =>
    obtain ⟨x, y, s', rfl, q⟩ := ab_2J_s q
    obtain ⟨hz, q⟩ := ab_dJ_s q
    exact lv_ldiv hx hb (hd _ rfl) hz (IHn _ _ _ _ q _ _ _ hP hS hl hn hL)
  | lrem =>
    obtain ⟨x, y, s', rfl, q⟩ := ab_2J_s q
    obtain ⟨hz, q⟩ := ab_dJ_s q
    exact lv_lrem hx hb (hd _ rfl) hz (IHn _ _ _ _ q _ _ _ hP hS hl hn hL)
  | lneg => obtain ⟨x, s', rfl, q⟩ := ab_1J_s q; exact lv_lneg hx hb (hd _ rfl) (IHn _ _ _ _ q _ _ _ hP hS hl hn hL)
  | lcmp => obtain ⟨x, y, s', rfl, q⟩ := ab_2J_s q; exact W.lcmp hx hb (hd _ rfl) (IHn _ _ _ _ q _ _ _ hP hS hl hn hL)
  | lshl => obtain ⟨x, y, s', rfl, q⟩ := ab_JI_s q; exact lv_lshl hx hb (hd _ rfl) rfl (IHn _ _ _ _ q _ _ _ hP hS hl hn hL)
  | lshr => obtain ⟨x, y, s', rfl, q⟩ := ab_JI_s q; exact lv_lshr hx hb (hd _ rfl) rfl (IHn _ _ _ _ q _ _ _ hP hS hl hn hL)
  | dup => obtain ⟨v, s', rfl, hc, q⟩ := ab_1V_s q; exact lv_dup hx hb (hd _ rfl) (by rw [ab_cv_cat]; exact hc) (IHn _ _ _ _ q _ _ _ hP hS hl hn hL)
  | pop => obtain ⟨v, s', rfl, hc, q⟩ := ab_1V_s q; exact lv_pop hx hb (hd _ rfl) (by rw [ab_cv_cat]; exact hc) (IHn _ _ _ _ q _ _ _ hP hS hl hn hL)
  | dup_x1 => obtain ⟨v, w, s', rfl, ⟨hc, hc2⟩, q⟩ := ab_2V_s q; exact lv_dup_x1 hx hb (hd _ rfl) (by rw [ab_cv_cat]; exact hc) (by rw [ab_cv_cat]; exact hc2) (IHn _ _ _ _ q _ _ _ hP hS hl hn hL)
  | dup2 => obtain ⟨v, w, s', rfl, ⟨hc, hc2⟩, q⟩ := ab_2V_s q; exact lv_dup2_11 hx hb (hd _ rfl) (by rw [ab_cv_cat]; exact hc) (by rw [ab_cv_cat]; exact hc2) (IHn _ _ _ _ q _ _ _ hP hS hl hn hL)
  | goto off =>
    have q : ab_tg pc off (fun t => kn t lv st h) = some r := q
    obtain ⟨t, ht, q⟩ := ab_tg_s q
    exact lv_goto hx hb (hd _ rfl) ht (IHn _ _ _ _ q _ _ _ hP hS hl hn hL)
  | ifCond cd off =>
    have q : ab_tg pc off (fun t => ab_1I st (fun x r => ab_bI cd x 0 (kn t lv r h) (kn (pc + 3) lv r h))) = some r := q
    obtain ⟨t, ht, q⟩ := ab_tg_s q
    obtain ⟨x, s', rfl, q⟩ := ab_1I_s q
    have q := ab_bI_s q
    cases cd with
    | eq => exact lv_if_eq hx hb (hd _ rfl) ht (fun z => IHn _ _ _ _ (q.1 z) _ _ _ hP hS hl hn hL) (fun z => IHn _ _ _ _ (q.2 z) _ _ _ hP hS hl hn hL)
    | ne => exact lv_if_ne hx hb (hd _ rfl) ht (fun z => IHn _ _ _ _ (q.1 z) _ _ _ hP hS hl hn hL) (fun z => IHn _ _ _ _ (q.2 z) _ _ _ hP hS hl hn hL)
    | lt => exact lv_if_lt hx hb (hd _ rfl) ht (fun z => IHn _ _ _ _ (q.1 z) _ _ _ hP hS hl hn hL) (fun z => IHn _ _ _ _ (q.2 z) _ _ _ hP hS hl hn hL)
    | ge => exact lv_if_ge hx hb (hd _ rfl) ht (fun z => IHn _ _ _ _ (q.1 z) _ _ _ hP hS hl hn hL) (fun z => IHn _ _ _ _ (q.2 z) _ _ _ hP hS hl hn hL)
    | gt => exact lv_if_gt hx hb (hd _ rfl) ht (fun z => IHn _ _ _ _ (q.1 z) _ _ _ hP hS hl hn hL) (fun z => IHn _ _ _ _ (q.2 z) _ _ _ hP hS hl hn hL)
    | le => exact lv_if_le hx hb (hd _ rfl) ht (fun z => IHn _ _ _ _ (q.1 z) _ _ _ hP hS hl hn hL) (fun z => IHn _ _ _ _ (q.2 z) _ _ _ hP hS hl hn hL)
  | if_icmp cd off =>
    have q : ab_tg pc off (fun t => ab_2I st (fun x y r => ab_bI cd x y (kn t lv r h) (kn (pc + 3) lv r h))) = some r := q
    obtain ⟨t, ht, q⟩ := ab_tg_s q
    obtain ⟨x, y, s', rfl, q⟩ := ab_2I_s q
    have q := ab_bI_s q
    cases cd with
    | eq => exact lv_icmp_eq hx hb (hd _ rfl) ht (fun z => IHn _ _ _ _ (q.1 z) _ _ _ hP hS hl hn hL) (fun z => IHn _ _ _ _ (q.2 z) _ _ _ hP hS hl hn hL)
    | ne => exact lv_icmp_ne hx hb (hd _ rfl) ht (fun z => IHn _ _ _ _ (q.1 z) _ _ _ hP hS hl hn hL) (fun z => IHn _ _ _ _ (q.2 z) _ _ _ hP hS hl hn hL)
    | lt => exact lv_icmp_lt hx hb (hd _ rfl) ht (fun z => IHn _ _ _ _ (q.1 z) _ _ _ hP hS hl hn hL) (fun z => IHn _ _ _ _ (q.2 z) _ _ _ hP hS hl hn hL)
    | ge => exact lv_icmp_ge hx hb (hd _ rfl) ht (fun z => IHn _ _ _ _ (q.1 z) _ _ _ hP hS hl hn hL) (fun z => IHn _ _ _ _ (q.2 z) _ _ _ hP hS hl hn hL)
    | gt => exact lv_icmp_gt hx hb (hd _ rfl) ht (fun z => IHn _ _ _ _ (q.1 z) _ _ _ hP hS hl hn hL) (fun z => IHn _ _ _ _ (q.2 z) _ _ _ hP hS hl hn hL)
    | le => exact lv_icmp_le hx hb (hd _ rfl) ht (fun z => IHn _ _ _ _ (q.1 z) _ _ _ hP hS hl hn hL) (fun z => IHn _ _ _ _ (q.2 z) _ _ _ hP hS hl hn hL)
  | tableswitch df lo hi offs =>
    obtain ⟨x, s', rfl, q⟩ := ab_1I_s q
    rcases ab_ts_s q with ⟨hq, t, ht, q⟩ | ⟨⟨h1, h2⟩, off, ho, t, ht, q⟩
    · exact lv_tableOut hx hb (hd _ rfl) hq ht (IHn _ _ _ _ q _ _ _ hP hS hl hn hL)
    · exact lv_tableIn hx hb (hd _ rfl) h1 h2 ho ht (IHn _ _ _ _ q _ _ _ hP hS hl hn hL)
  | getfield i =>
    have q : (ab_fl o i).bind _ = some r := q
    obtain ⟨w, hw, q⟩ := Option.bind_eq_some_iff.mp q
    obtain ⟨a, s', rfl, q⟩ := ab_1R_s q
    obtain ⟨⟨h5, hci⟩, q⟩ := ab_ob_s q
    obtain ⟨rc, hrc, hj, hnf, hlk, -, -⟩ := ab_fl_spec hw
    have hk := ab_sh_k h5 (by omega) (by omega)
    have he := ab_w_get ad cA h hk
    rw [ab_ent_5 h5, hci] at he
    exact va_get (C := rc.1) (T := rc.2.1) (N := rc.2.2) (ci := w.1) (ref := (rc.2.1 w.2.1).1) hx hb hts (fun z hz => ab_tb_in ((ab_clsA _ _ hrc).1 z hz) (by obtain ⟨k, -, rfl⟩ := List.mem_map.mp hz; unfold u_lay; split <;> rfl)) hown hK hP a he hrc w.2.1 hj (hts _ (ab_tb_in hlk rfl)) (fun _ z => z) (v := ab_cv ad (ab_fv h a w.1 w.2.1)) (by simp [hnf, hj]) (hd _ rfl) (IHn _ _ _ _ q _ _ _ hP hS hl hn hL)
  | putfield i =>
    have q : (ab_fl o i).bind _ = some r := q
    obtain ⟨w, hw, q⟩ := Option.bind_eq_some_iff.mp q
    obtain ⟨rc, hrc, hj, hnf, hlk, hf0, hf1⟩ := ab_fl_spec hw
    obtain ⟨hin, ⟨ty0, hty⟩, hnm⟩ := ab_clsA _ _ hrc
    have hin2 : ∀ z ∈ u_ws rc.1 rc.2.1 rc.2.2, z ∈ ab_tb := fun z hz => ab_tb_in (hin z hz) (by obtain ⟨k, -, rfl⟩ := List.mem_map.mp hz; unfold u_lay; split <;> rfl)
    rcases ab_pf_s q with ⟨hf, x, a, s', rfl, ⟨h5, hci⟩, q⟩ | ⟨hf, x, a, s', rfl, ⟨h5, hci⟩, q⟩
    · have hk := ab_sh_k h5 (by omega) (by omega)
      have he := ab_w_get ad cA h hk
      rw [ab_ent_5 h5, hci] at he
      refine va_put (C := rc.1) (T := rc.2.1) (N := rc.2.2) (ci := w.1) (ref := (rc.2.1 w.2.1).1) (ty := .int) hx hb hts hin2 ty0 hty hnm hown hK hP (hDD h) hS a he hrc w.2.1 hj (hts _ (ab_tb_in hlk rfl)) (fun _ z => z) (hf0 hf).1 (hf0 hf).2 rfl rfl (by simp [hnf, hj]) (hd _ rfl) (fun H1 locs1 hP1 _ hS1 => ?_)
      rw [ab_w_sI (i := w.2.1) (x := x) (by
        rw [ab_ent_5 h5, hci]
        refine congrArg Sum.inr (congrArg (Prod.mk w.1) (ab_map_set (by rw [hnf]; exact hj) (by rw [ab_fv_sI_eq hf]) (fun i hi => by rw [ab_fv_sI hi])))) ] at hP1
      exact IHn _ _ _ _ q _ _ _ hP1 hS1 hl hn hL
    · have hk := ab_sh_k h5 (by omega) (by omega)
      have he := ab_w_get ad cA h hk
      rw [ab_ent_5 h5, hci] at he
      refine va_put (C := rc.1) (T := rc.2.1) (N := rc.2.2) (ci := w.1) (ref := (rc.2.1 w.2.1).1) (ty := .long) hx hb hts hin2 ty0 hty hnm hown hK hP (hDD h) hS a he hrc w.2.1 hj (hts _ (ab_tb_in hlk rfl)) (fun _ z => z) (hf1 hf).1 (hf1 hf).2 rfl rfl (by simp [hnf, hj]) (hd _ rfl) (fun H1 locs1 hP1 _ hS1 => ?_)
      rw [ab_w_sJ (i := w.2.1) (x := x) (by
        rw [ab_ent_5 h5, hci]
        refine congrArg Sum.inr (congrArg (Prod.mk w.1) (ab_map_set (by rw [hnf]; exact hj) (by rw [ab_fv_sJ_eq hf]) (fun i hi => by rw [ab_fv_sJ hi])))) ] at hP1
      exact IHn _ _ _ _ q _ _ _ hP1 hS1 hl hn hL
  | getstatic i =>
    obtain ⟨⟨h1, h2⟩, q⟩ := ab_if_s q
    subst h1; subst h2
    exact va_gets (C := "AbsentPost") (ref := "AbsentPost") hx hb hB.2.2.2.1 hS hown (hts _ (ab_tb_in (List.mem_of_getElem? ab_w_z) rfl)) (fun _ z => z) (hd _ rfl) (IHn _ _ _ _ q _ _ _ hP hS hl hn hL)
  | iaload =>
    obtain ⟨a, i, s', rfl, q⟩ := ab_RI_s q
    have q : ab_ld X h a i (fun x => kn (pc + 1) lv (.int x :: s') h) = some r := q
    rcases ab_ld_s q with ⟨⟨h1, h2⟩, q2⟩ | ⟨⟨h1, h2⟩, q2⟩ | ⟨⟨h1, h2⟩, q2⟩
    · have he := ab_w_get ad cA h (ab_sh_k h1 (by omega) (by omega))
      rw [ab_ent_1 h1] at he
      exact va_iald hx hb hK hP a 0 he rfl h2 (hd _ rfl) (IHn _ _ _ _ q2 _ _ _ hP hS hl hn hL)
    · have e : a = 80 := by
        unfold ab_sh at h1
        split at h1
        · rename_i z hz
          have hb2 : ∀ z ∈ ab_shT, z.1 ≠ 6 := by decide
          exact absurd h1 (hb2 z (List.mem_of_getElem? hz))
        · split at h1
          · assumption
          · split at h1 <;> cases h1
      subst e
      exact va_ti hx hb hB.2.2.2.2.1 hS h2 rfl (hd _ rfl) (IHn _ _ _ _ q2 _ _ _ hP hS hl hn hL)
    · have e : a = 81 := by
        unfold ab_sh at h1
        split at h1
        · rename_i z hz
          have hb2 : ∀ z ∈ ab_shT, z.1 ≠ 7 := by decide
          exact absurd h1 (hb2 z (List.mem_of_getElem? hz))
        · split at h1
          · cases h1
          · split at h1
            · assumption
            · cases h1
      subst e
      exact va_sld hx hb hB.2.2.2.2.2.1 (Nat.lt_of_lt_of_le hG.2 hB.1) (Nat.not_le.mpr hG.2) hS h2 (hd _ rfl) (IHn _ _ _ _ q2 _ _ _ hP hS hl hn hL)
  | baload =>
    obtain ⟨a, i, s', rfl, q⟩ := ab_RI_s q
    obtain ⟨h1, q⟩ := ab_if_s q
    obtain ⟨h1, h2⟩ := ab_inB_iff.mp h1
    have he := ab_w_get ad cA h (ab_sh_k h1 (by omega) (by omega))
    rw [ab_ent_2 h1] at he
    exact va_bald hx hb hK hP a 1 he rfl h2 (hd _ rfl) (IHn _ _ _ _ q _ _ _ hP hS hl hn hL)
  | laload =>
    obtain ⟨a, i, s', rfl, q⟩ := ab_RI_s q
    obtain ⟨h1, q⟩ := ab_if_s q
    obtain ⟨h1, h2⟩ := ab_inB_iff.mp h1
    have he := ab_w_get ad cA h (ab_sh_k h1 (by omega) (by omega))
    rw [ab_ent_3 h1] at he
    exact va_lald hx hb hK hP a 2 he rfl h2 (hd _ rfl) (IHn _ _ _ _ q _ _ _ hP hS hl hn hL)
  | aaload =>
    obtain ⟨a, i, s', rfl, q⟩ := ab_RI_s q
    obtain ⟨h1, q⟩ := ab_if_s q
    obtain ⟨h1, h2⟩ := ab_inB_iff.mp h1
    have he := ab_w_get ad cA h (ab_sh_k h1 (by omega) (by omega))
    rw [ab_ent_4 h1] at he
    have hlt2 : i.toNatClampNeg < (ab_sh a).2.1 := Nat.not_le.mp fun z => h2 (Or.inr z)
    have ht : ∃ ty : FieldType, (ab_ty cA)[3 + (ab_sh a).2.2]? = some (cA (3 + (ab_sh a).2.2), ty) ∧ ty.isReference = true := by
      have hb2 : ∀ z ∈ ab_shT, z.1 = 4 → z.2.2 = 0 ∨ z.2.2 = 1 ∨ z.2.2 = 2 := by decide
      have hz : ab_shT[a]? = some (ab_sh a) := by
        have h3 := ab_sh_k h1 (by omega) (by omega)
        unfold ab_sh
        cases hz : ab_shT[a]? with
        | none => rw [List.getElem?_eq_none_iff] at hz; rw [show ab_shT.length = 73 from rfl] at hz; omega
        | some z => rfl
      rcases hb2 _ (List.mem_of_getElem? hz) h1 with e | e | e <;> rw [e] <;> exact ⟨_, rfl, rfl⟩
    obtain ⟨ty, ht1, ht2⟩ := ht
    have hv : va_rf ((fun i => if i < (ab_sh a).2.1 then some (ad (ab_ra a i)) else none) i.toNatClampNeg) = .ref (ad (ab_ra a i.toNatClampNeg)) := by
      dsimp only
      rw [if_pos hlt2]
      rfl
    exact W.aald (v := .ref (ad (ab_ra a i.toNatClampNeg))) (ty := ty) hx hb (hP a _ he) ((hK.2 _ _ ht1).1 _ (fun j => va_rf ((fun i => if i < (ab_sh a).2.1 then some (ad (ab_ra a i)) else none) j))) ht2 (fun z => by cases z) (by show ¬ (i < 0 ∨ (arrV _ _ _).slots.size ≤ _); rw [arrV_size]; exact h2) (by show (arrV _ _ _).slots[_]? = _; rw [arrV_read _ _ hlt2, hv]) rfl rfl (hd _ rfl) (IHn _ _ _ _ q _ _ _ hP hS hl hn hL)
  | iastore =>
    obtain ⟨a, i, x, s', rfl, q⟩ := ab_RII_s q
    obtain ⟨h1, q⟩ := ab_if_s q
    obtain ⟨h1, h2⟩ := ab_inB_iff.mp h1
    have he := ab_w_get ad cA h (ab_sh_k h1 (by omega) (by omega))
    rw [ab_ent_1 h1] at he
    refine va_iast hx hb hK hP (hDD h) hS a 0 he rfl h2 (hd _ rfl) (fun H1 locs1 hP1 _ hS1 => ?_)
    rw [ab_w_sI (i := i.toNatClampNeg) (x := x) (by rw [ab_ent_1 h1, ab_sI_eq])] at hP1
    exact IHn _ _ _ _ q _ _ _ hP1 hS1 hl hn hL
  | bastore =>
    obtain ⟨a, i, x, s', rfl, q⟩ := ab_RII_s q
    obtain ⟨h1, q⟩ := ab_if_s q
    obtain ⟨h1, h2⟩ := ab_inB_iff.mp h1
    have he := ab_w_get ad cA h (ab_sh_k h1 (by omega) (by omega))
    rw [ab_ent_2 h1] at he
    refine va_bast hx hb hK hP (hDD h) hS a 1 he rfl h2 (hd _ rfl) (fun H1 locs1 hP1 _ hS1 => ?_)
    rw [ab_w_sI (i := i.toNatClampNeg) (x := x.toInt8.toInt32) (by rw [ab_ent_2 h1, ab_sI_eq, vp_nar_byte])] at hP1
    exact IHn _ _ _ _ q _ _ _ hP1 hS1 hl hn hL
  | lastore =>
    obtain ⟨a, i, x, s', rfl, q⟩ := ab_RIJ_s q
    obtain ⟨h1, q⟩ := ab_if_s q
    obtain ⟨h1, h2⟩ := ab_inB_iff.mp h1
    have he := ab_w_get ad cA h (ab_sh_k h1 (by omega) (by omega))
    rw [ab_ent_3 h1] at he
    refine va_last hx hb hK hP (hDD h) hS a 2 he rfl h2 (hd _ rfl) (fun H1 locs1 hP1 _ hS1 => ?_)
    rw [ab_w_sJ (i := i.toNatClampNeg) (x := x) (by rw [ab_ent_3 h1, ab_sJ_eq])] at hP1
    exact IHn _ _ _ _ q _ _ _ hP1 hS1 hl hn hL
  | arraylength =>
    obtain ⟨a, s', rfl, q⟩ := ab_1R_s q
    have q : ab_ln X a (fun x => kn (pc + 1) lv (.int x :: s') h) = some r := q
    rcases ab_ln_s q with ⟨h1, q⟩ | ⟨h1, q⟩ | ⟨h1, q⟩
    · rcases h1 with h1 | h1
      · have he := ab_w_get ad cA h (ab_sh_k h1 (by omega) (by omega))
        rw [ab_ent_1 h1] at he
        exact va_alen hx hb hK hP a 0 he (ty := .int) rfl rfl (hd _ rfl) (IHn _ _ _ _ q _ _ _ hP hS hl hn hL)
      · have he := ab_w_get ad cA h (ab_sh_k h1 (by omega) (by omega))
        rw [ab_ent_2 h1] at he
        exact va_alen hx hb hK hP a 1 he (ty := .byte) rfl rfl (hd _ rfl) (IHn _ _ _ _ q _ _ _ hP hS hl hn hL)
    · have e : a = 80 := by
        unfold ab_sh at h1
        split at h1
        · rename_i z hz
          have hb2 : ∀ z ∈ ab_shT, z.1 ≠ 6 := by decide
          exact absurd h1 (hb2 z (List.mem_of_getElem? hz))
        · split at h1
          · assumption
          · split at h1 <;> cases h1
      subst e
      exact va_tlen hx hb hB.2.2.2.2.1 hS rfl (hd _ rfl) (IHn _ _ _ _ q _ _ _ hP hS hl hn hL)
    · have e : a = 81 := by
        unfold ab_sh at h1
        split at h1
        · rename_i z hz
          have hb2 : ∀ z ∈ ab_shT, z.1 ≠ 7 := by decide
          exact absurd h1 (hb2 z (List.mem_of_getElem? hz))
        · split at h1
          · cases h1
          · split at h1
            · assumption
            · cases h1
      subst e
      exact va_slen hx hb hB.2.2.2.2.2.1 (Nat.lt_of_lt_of_le hG.2 hB.1) (Nat.not_le.mpr hG.2) hS (hd _ rfl) (IHn _ _ _ _ q _ _ _ hP hS hl hn hL)
  | invokestatic i =>
    have q : (if (ab_ac o i).isSome = true then _ else _) = some r := q
    by_cases hac : (ab_ac o i).isSome = true
    · rw [if_pos hac] at q
      obtain ⟨a, sp, b, dp, n, s', rfl, q⟩ := ab_5_s q
      obtain ⟨hw8, q⟩ := ab_if_s q
      obtain ⟨⟨c1, c2, c3, c4, c5⟩, q⟩ := ab_cp_s q
      have hlo : ((s'.map (ab_cv ad)).map fun v => v.category).sum + (nativeFrameWords "java/lang/System" "arraycopy" 5 + 11) ≤ R.locals := by
        rw [ab_ws_cv, show nativeFrameWords "java/lang/System" "arraycopy" 5 = 7 by decide]
        have := hR.2
        omega
      rcases q with ⟨⟨h1, h2⟩, q⟩ | ⟨⟨h1, h2⟩, q⟩
      · have he := ab_w_get ad cA h (ab_sh_k h1 (by omega) (by omega))
        rw [ab_ent_1 h1] at he
        have he2 := ab_w_get ad cA h (ab_sh_k h2 (by omega) (by omega))
        rw [ab_ent_1 h2] at he2
        refine va_copyi (ty := .int) hx hb (hml.trans hl.1.symm) hown (hts _ (ab_tb_in (ab_ac_spec hac) rfl)) (hts _ (ab_tb_in ab_w_nat.1 rfl)) (hts _ (ab_tb_in ab_w_nat.2.1 rfl)) (hts _ (ab_tb_in ab_w_nat.2.2 rfl)) hK hP (hDD h) hS a b 0 0 he he2 rfl rfl rfl c1 c2 c3 c4 c5 (fun _ _ => rfl) (by have := hR.1; omega) hlo (hd _ rfl) (fun H1 locs1 hP1 _ hS1 => ?_)
        rw [ab_w_cI (a := a) (sp := sp.toNatClampNeg) (dp := dp.toNatClampNeg) (n := n.toNatClampNeg) (by rw [ab_ent_1 h2, ab_cI_eq])] at hP1
        exact IHn _ _ _ _ q _ _ _ hP1 hS1 hl hn hL
      · have he := ab_w_get ad cA h (ab_sh_k h1 (by omega) (by omega))
        rw [ab_ent_3 h1] at he
        have he2 := ab_w_get ad cA h (ab_sh_k h2 (by omega) (by omega))
        rw [ab_ent_3 h2] at he2
        refine va_copyl (ty := .long) hx hb (hml.trans hl.1.symm) hown (hts _ (ab_tb_in (ab_ac_spec hac) rfl)) (hts _ (ab_tb_in ab_w_nat.1 rfl)) (hts _ (ab_tb_in ab_w_nat.2.1 rfl)) (hts _ (ab_tb_in ab_w_nat.2.2 rfl)) hK hP (hDD h) hS a b 2 2 he he2 rfl rfl rfl c1 c2 c3 c4 c5 (fun _ _ => rfl) (by have := hR.1; omega) hlo (hd _ rfl) (fun H1 locs1 hP1 _ hS1 => ?_)
        rw [ab_w_cJ (a := a) (sp := sp.toNatClampNeg) (dp := dp.toNatClampNeg) (n := n.toNatClampNeg) (by rw [ab_ent_3 h2, ab_cJ_eq])] at hP1
        exact IHn _ _ _ _ q _ _ _ hP1 hS1 hl hn hL
    · rw [if_neg hac] at q
      obtain ⟨w, hw, q⟩ := Option.bind_eq_some_iff.mp q
      obtain ⟨E, hE, hM, hnp, hini, hk0, hk1, hk2, hk3, hk4, hk5, hkk⟩ := ab_cl_spec hw
      split at q
      · rename_i hkind
        obtain ⟨g1, g2, q⟩ := ab_cal_s q
        obtain ⟨g3, q⟩ := ab_if_s q
        obtain ⟨z, d', q, rfl, hCt⟩ := IHc _ _ _ _ q
        obtain ⟨m1, m2, m3, m4⟩ := hkk (by omega)
        have hMet := hCt g3 hM (fun E' hE' => by rw [hE] at hE'; cases hE'; exact ⟨m2, m4⟩) E hE
        have hst : (st.map (ab_cv ad)) = ((st.take w.2.1).reverse.map (ab_cv ad)).reverse ++ (st.drop w.2.1).map (ab_cv ad) := by
          rw [← List.map_reverse, List.reverse_reverse, ← List.map_append, List.take_append_drop]
        have hlen : ((st.take w.2.1).reverse.map (ab_cv ad)).length = w.2.1 := by simp; omega
        have hpS : PreS s H (va_Pc ((st.take w.2.1).reverse.map (ab_cv ad)) (ab_B D base ad cA X h)) ((st.take w.2.1).reverse.map (ab_cv ad)) := ⟨ab_blind _ _ _ _ _ _ _, fun U hU hW => ⟨rfl, ab_pre hG hB hP hS hU hW⟩⟩
        rcases hkind with hkind | hkind
        · exact ab_back (va_runS (nL := nL) (Ts := ab_tb) (own := ab_onm o) ⟨hx, hb, hml, hown, hts⟩ hMet ⟨ab_callB hts hE hM hnp hini m1 m3 (hk0 hkind).1 hR, hts _ (ab_tb_in (hk0 hkind).2 rfl)⟩ hpS rfl hlen hl.1 hst (lv_room (by rw [ab_ws_cv]; exact g2)) (hd _ rfl) hcs) hS (fun H1 locs1 hP1 hS1 => IHn _ _ _ _ q _ _ _ hP1 hS1 hl hn hL)
        · exact ab_back (va_runSN (nL := nL) (Ts := ab_tb) (own := ab_onm o) (host := "AbsentPost") ⟨hx, hb, hml, hown, hts⟩ hMet ⟨va_cnB w.2.1 hts (ab_goodIn hM hE) rfl rfl rfl (hB.2.2.2.2.2.2 _ _ _ _ (hk1 hkind).1) (hts _ (ab_tb_in hini rfl)) ⟨m3.1, m3.2, hnp⟩ ⟨hR.1, by show 8 + (E.2.2.1 + 11) + 100 * (d' + 1) ≤ R.locals; have := hR.2; omega⟩, hts _ (ab_tb_in (hk1 hkind).2 rfl), trivial⟩ hpS rfl hlen hl.1 hst (lv_room (by rw [ab_ws_cv]; exact g2)) (hd _ rfl) hcs) hS (fun H1 locs1 hP1 hS1 => IHn _ _ _ _ q _ _ _ hP1 hS1 hl hn hL)
      · have hfr : 1 ≤ R.frames := by have := hR.1; omega
        split at q
        · rename_i hkind
          obtain ⟨x, y, s', rfl, q⟩ := ab_2I_s q
          obtain ⟨hw8, q⟩ := ab_if_s q
          exact va_mmax hx hb (hml.trans hl.1.symm) hown (hts _ (ab_tb_in (hk3 hkind) rfl)) (hts _ (ab_tb_in ab_w_math.1 rfl)) (hts _ (ab_tb_in ab_w_math.2.2.2 rfl)) (hts _ (ab_tb_in ab_w_max rfl)) hfr (by rw [ab_ws_cv]; have := hR.2; omega) hcs.1 hcs.2 (hd _ rfl) (IHn _ _ _ _ q _ _ _ hP hS hl hn hL)
        · split at q
          · rename_i hkind
            obtain ⟨x, y, s', rfl, q⟩ := ab_2I_s q
            obtain ⟨hw8, q⟩ := ab_if_s q
            exact va_mmin hx hb (hml.trans hl.1.symm) hown (hts _ (ab_tb_in (hk4 hkind) rfl)) (hts _ (ab_tb_in ab_w_math.2.1 rfl)) (hts _ (ab_tb_in ab_w_math.2.2.2 rfl)) (hts _ (ab_tb_in ab_w_min rfl)) hfr (by rw [ab_ws_cv]; have := hR.2; omega) hcs.1 hcs.2 (hd _ rfl) (IHn _ _ _ _ q _ _ _ hP hS hl hn hL)
          · obtain ⟨hkind, q⟩ := ab_if_s q
            obtain ⟨x, s', rfl, q⟩ := ab_1I_s q
            obtain ⟨hw8, q⟩ := ab_if_s q
            exact va_mabs hx hb (hml.trans hl.1.symm) hown (hts _ (ab_tb_in (hk5 hkind) rfl)) (hts _ (ab_tb_in ab_w_math.2.2.1 rfl)) (hts _ (ab_tb_in ab_w_math.2.2.2 rfl)) (hts _ (ab_tb_in ab_w_abs rfl)) hfr (by rw [ab_ws_cv]; have := hR.2; omega) hcs.1 hcs.2 (hd _ rfl) (IHn _ _ _ _ q _ _ _ hP hS hl hn hL)
  | invokevirtual i =>
    have q : (ab_cl o i).bind _ = some r := q
    obtain ⟨w, hw, q⟩ := Option.bind_eq_some_iff.mp q
    obtain ⟨E, hE, hM, hnp, hini, hk0, hk1, hk2, hk3, hk4, hk5, hkk⟩ := ab_cl_spec hw
    obtain ⟨hkind, q⟩ := ab_if_s q
    obtain ⟨g1, g2, q⟩ := ab_cal_s q
    obtain ⟨b, s', hs', q⟩ := ab_1R_s q
    obtain ⟨g3, q⟩ := ab_if_s q
    obtain ⟨⟨h5, hci⟩, q⟩ := ab_ob_s q
    obtain ⟨z, d', q, rfl, hCt⟩ := IHc _ _ _ _ q
    obtain ⟨m1, m2, m3, m4⟩ := hkk (by omega)
    have hMet := hCt g3 hM (fun E' hE' => by rw [hE] at hE'; cases hE'; exact ⟨m2, m4⟩) E hE
    obtain ⟨k1, k2, k3, rc, hrc, hrcn⟩ := hk2 hkind
    have hmo : ab_mo w.1 = E.2.2.2.2.1 := by unfold ab_mo; rw [hE]
    rw [hmo] at hci
    have hst : (st.map (ab_cv ad)) = ((st.take w.2.1).reverse.map (ab_cv ad)).reverse ++ .ref (ad b) :: s'.map (ab_cv ad) := by
      rw [← List.map_reverse, List.reverse_reverse, show Value.ref (ad b) :: s'.map (ab_cv ad) = (Value.ref b :: s').map (ab_cv ad) from rfl, ← hs', ← List.map_append, List.take_append_drop]
    have hlen : ((st.take w.2.1).reverse.map (ab_cv ad)).length = w.2.1 := by simp; omega
    have he := ab_w_get ad cA h (ab_sh_k h5 (by omega) (by omega))
    rw [ab_ent_5 h5, hci] at he
    have hrec := va_recv hK hP hrc he
    rw [hrcn] at hrec
    have hw9 : ab_ws s' ≤ 8 := by
      rw [hs'] at g2
      unfold ab_ws at g2 ⊢
      simp only [List.map_cons, List.sum_cons] at g2
      omega
    have hpV : PreV s H E.1.cls (ad b) (va_Pc ((Value.ref b :: (st.take w.2.1).reverse).map (ab_cv ad)) (ab_B D base ad cA X h)) ((st.take w.2.1).reverse.map (ab_cv ad)) := ⟨ab_blind _ _ _ _ _ _ _, hrec, fun U hU hW => ⟨rfl, ab_pre hG hB hP hS hU hW⟩⟩
    exact ab_back (va_runV (nL := nL) (Ts := ab_tb) (own := ab_onm o) ⟨hx, hb, hml, hown, hts⟩ hMet ⟨ab_callB hts hE hM hnp hini m1 m3 k1 hR, hts _ (ab_tb_in k2 rfl), hts _ (ab_tb_in k3 rfl)⟩ hpV rfl hlen hl.1 hst (lv_room (by rw [ab_ws_cv]; exact hw9)) (hd _ rfl) hcs) hS (fun H1 locs1 hP1 hS1 => IHn _ _ _ _ q _ _ _ hP1 hS1 hl hn hL)
  | ireturn =>
    obtain ⟨x, s', rfl, q⟩ := ab_1I_s q
    have q : (if s' = [] ∧ ab_rk rt x = true then some (some (Value.int x), h) else none) = some r := q
    obtain ⟨⟨hs0, hk⟩, q2⟩ := ab_if_s q
    have q3 := (Option.some.inj q2).symm
    subst hs0
    subst q3
    exact hend _ _ _ hP hS ⟨hk, hd _ rfl, rfl⟩
  | lreturn =>
    obtain ⟨x, s', rfl, q⟩ := ab_1J_s q
    have q : (if s' = [] ∧ rt = some .long then some (some (Value.long x), h) else none) = some r := q
    obtain ⟨⟨hs0, hk⟩, q2⟩ := ab_if_s q
    have q3 := (Option.some.inj q2).symm
    subst hs0
    subst q3
    exact hend _ _ _ hP hS ⟨hk, hd _ rfl, rfl⟩
  | return_ =>
    have q : (if st = [] ∧ rt = none then some (none, h) else none) = some r := q
    obtain ⟨⟨hs0, hk⟩, q2⟩ := ab_if_s q
    have q3 := (Option.some.inj q2).symm
    subst hs0
    subst q3
    exact hend _ _ _ hP hS ⟨hk, hd _ rfl, rfl⟩
  | _ => cases q
end
end
section
/-! the whole run -/
theorem ab_dk_0 : ∀ e ∈ ab_mt_0, (e.2.2.2.2.2.all fun q => decide (decode e.2.1 q.1 = .ok (q.2.1, q.2.2))) = true := List.forall_mem_cons.mpr ⟨ab_d0, List.forall_mem_cons.mpr ⟨ab_d1, List.forall_mem_cons.mpr ⟨ab_d2, List.forall_mem_cons.mpr ⟨ab_d3, List.forall_mem_cons.mpr ⟨ab_d4, List.forall_mem_cons.mpr ⟨ab_d5, List.forall_mem_cons.mpr ⟨ab_d6, List.forall_mem_cons.mpr ⟨ab_d7, List.forall_mem_cons.mpr ⟨ab_d8, List.forall_mem_cons.mpr ⟨ab_d9, List.forall_mem_cons.mpr ⟨ab_d10, List.forall_mem_cons.mpr ⟨ab_d11, List.forall_mem_cons.mpr ⟨ab_d12, List.forall_mem_cons.mpr ⟨ab_d13, List.forall_mem_cons.mpr ⟨ab_d14, List.forall_mem_cons.mpr ⟨ab_d15, fun _ h => absurd h List.not_mem_nil⟩⟩⟩⟩⟩⟩⟩⟩⟩⟩⟩⟩⟩⟩⟩⟩
theorem ab_dk_1 : ∀ e ∈ ab_mt_1, (e.2.2.2.2.2.all fun q => decide (decode e.2.1 q.1 = .ok (q.2.1, q.2.2))) = true := List.forall_mem_cons.mpr ⟨ab_d16, List.forall_mem_cons.mpr ⟨ab_d17, List.forall_mem_cons.mpr ⟨ab_d18, List.forall_mem_cons.mpr ⟨ab_d19, List.forall_mem_cons.mpr ⟨ab_d20, List.forall_mem_cons.mpr ⟨ab_d21, List.forall_mem_cons.mpr ⟨ab_d22, List.forall_mem_cons.mpr ⟨ab_d23, List.forall_mem_cons.mpr ⟨ab_d24, List.forall_mem_cons.mpr ⟨ab_d25, List.forall_mem_cons.mpr ⟨ab_d26, List.forall_mem_cons.mpr ⟨ab_d27, List.forall_mem_cons.mpr ⟨ab_d28, List.forall_mem_cons.mpr ⟨ab_d29, List.forall_mem_cons.mpr ⟨ab_d30, List.forall_mem_cons.mpr ⟨ab_d31, fun _ h => absurd h List.not_mem_nil⟩⟩⟩⟩⟩⟩⟩⟩⟩⟩⟩⟩⟩⟩⟩⟩
theorem ab_dk_2 : ∀ e ∈ ab_mt_2, (e.2.2.2.2.2.all fun q => decide (decode e.2.1 q.1 = .ok (q.2.1, q.2.2))) = true := List.forall_mem_cons.mpr ⟨ab_d32, List.forall_mem_cons.mpr ⟨ab_d33, List.forall_mem_cons.mpr ⟨ab_d34, List.forall_mem_cons.mpr ⟨ab_d35, List.forall_mem_cons.mpr ⟨ab_d36, List.forall_mem_cons.mpr ⟨ab_d37, List.forall_mem_cons.mpr ⟨ab_d38, List.forall_mem_cons.mpr ⟨ab_d39, List.forall_mem_cons.mpr ⟨ab_d40, List.forall_mem_cons.mpr ⟨ab_d41, List.forall_mem_cons.mpr ⟨ab_d42, List.forall_mem_cons.mpr ⟨ab_d43, List.forall_mem_cons.mpr ⟨ab_d44, List.forall_mem_cons.mpr ⟨ab_d45, List.forall_mem_cons.mpr ⟨ab_d46, List.forall_mem_cons.mpr ⟨ab_d47, fun _ h => absurd h List.not_mem_nil⟩⟩⟩⟩⟩⟩⟩⟩⟩⟩⟩⟩⟩⟩⟩⟩
theorem ab_dk_3 : ∀ e ∈ ab_mt_3, (e.2.2.2.2.2.all fun q => decide (decode e.2.1 q.1 = .ok (q.2.1, q.2.2))) = true := List.forall_mem_cons.mpr ⟨ab_d48, List.forall_mem_cons.mpr ⟨ab_d49, List.forall_mem_cons.mpr ⟨ab_d50, List.forall_mem_cons.mpr ⟨ab_d51, List.forall_mem_cons.mpr ⟨ab_d52, List.forall_mem_cons.mpr ⟨ab_d53, List.forall_mem_cons.mpr ⟨ab_d54, List.forall_mem_cons.mpr ⟨ab_d55, List.forall_mem_cons.mpr ⟨ab_d56, List.forall_mem_cons.mpr ⟨ab_d57, List.forall_mem_cons.mpr ⟨ab_d58, List.forall_mem_cons.mpr ⟨ab_d59, List.forall_mem_cons.mpr ⟨ab_d60, List.forall_mem_cons.mpr ⟨ab_d61, List.forall_mem_cons.mpr ⟨ab_d62, List.forall_mem_cons.mpr ⟨ab_d63, fun _ h => absurd h List.not_mem_nil⟩⟩⟩⟩⟩⟩⟩⟩⟩⟩⟩⟩⟩⟩⟩⟩
theorem ab_dk_4 : ∀ e ∈ ab_mt_4, (e.2.2.2.2.2.all fun q => decide (decode e.2.1 q.1 = .ok (q.2.1, q.2.2))) = true := List.forall_mem_cons.mpr ⟨ab_d64, List.forall_mem_cons.mpr ⟨ab_d65, List.forall_mem_cons.mpr ⟨ab_d66, List.forall_mem_cons.mpr ⟨ab_d67, List.forall_mem_cons.mpr ⟨ab_d68, List.forall_mem_cons.mpr ⟨ab_d69, List.forall_mem_cons.mpr ⟨ab_d70, List.forall_mem_cons.mpr ⟨ab_d71, List.forall_mem_cons.mpr ⟨ab_d72, List.forall_mem_cons.mpr ⟨ab_d73, List.forall_mem_cons.mpr ⟨ab_d74, List.forall_mem_cons.mpr ⟨ab_d75, List.forall_mem_cons.mpr ⟨ab_d76, List.forall_mem_cons.mpr ⟨ab_d77, List.forall_mem_cons.mpr ⟨ab_d78, List.forall_mem_cons.mpr ⟨ab_d79, fun _ h => absurd h List.not_mem_nil⟩⟩⟩⟩⟩⟩⟩⟩⟩⟩⟩⟩⟩⟩⟩⟩
theorem ab_dk_5 : ∀ e ∈ ab_mt_5, (e.2.2.2.2.2.all fun q => decide (decode e.2.1 q.1 = .ok (q.2.1, q.2.2))) = true := List.forall_mem_cons.mpr ⟨ab_d80, List.forall_mem_cons.mpr ⟨ab_d81, List.forall_mem_cons.mpr ⟨ab_d82, List.forall_mem_cons.mpr ⟨ab_d83, List.forall_mem_cons.mpr ⟨ab_d84, List.forall_mem_cons.mpr ⟨ab_d85, List.forall_mem_cons.mpr ⟨ab_d86, List.forall_mem_cons.mpr ⟨ab_d87, List.forall_mem_cons.mpr ⟨ab_d88, List.forall_mem_cons.mpr ⟨ab_d89, List.forall_mem_cons.mpr ⟨ab_d90, List.forall_mem_cons.mpr ⟨ab_d91, List.forall_mem_cons.mpr ⟨ab_d92, List.forall_mem_cons.mpr ⟨ab_d93, List.forall_mem_cons.mpr ⟨ab_d94, List.forall_mem_cons.mpr ⟨ab_d95, fun _ h => absurd h List.not_mem_nil⟩⟩⟩⟩⟩⟩⟩⟩⟩⟩⟩⟩⟩⟩⟩⟩
theorem ab_dk_6 : ∀ e ∈ ab_mt_6, (e.2.2.2.2.2.all fun q => decide (decode e.2.1 q.1 = .ok (q.2.1, q.2.2))) = true := List.forall_mem_cons.mpr ⟨ab_d96, List.forall_mem_cons.mpr ⟨ab_d97, List.forall_mem_cons.mpr ⟨ab_d98, List.forall_mem_cons.mpr ⟨ab_d99, List.forall_mem_cons.mpr ⟨ab_d100, List.forall_mem_cons.mpr ⟨ab_d101, List.forall_mem_cons.mpr ⟨ab_d102, List.forall_mem_cons.mpr ⟨ab_d103, List.forall_mem_cons.mpr ⟨ab_d104, List.forall_mem_cons.mpr ⟨ab_d105, List.forall_mem_cons.mpr ⟨ab_d106, List.forall_mem_cons.mpr ⟨ab_d107, List.forall_mem_cons.mpr ⟨ab_d108, List.forall_mem_cons.mpr ⟨ab_d109, List.forall_mem_cons.mpr ⟨ab_d110, List.forall_mem_cons.mpr ⟨ab_d111, fun _ h => absurd h List.not_mem_nil⟩⟩⟩⟩⟩⟩⟩⟩⟩⟩⟩⟩⟩⟩⟩⟩
theorem ab_dk_7 : ∀ e ∈ ab_mt_7, (e.2.2.2.2.2.all fun q => decide (decode e.2.1 q.1 = .ok (q.2.1, q.2.2))) = true := List.forall_mem_cons.mpr ⟨ab_d112, List.forall_mem_cons.mpr ⟨ab_d113, List.forall_mem_cons.mpr ⟨ab_d114, List.forall_mem_cons.mpr ⟨ab_d115, List.forall_mem_cons.mpr ⟨ab_d116, List.forall_mem_cons.mpr ⟨ab_d117, List.forall_mem_cons.mpr ⟨ab_d118, List.forall_mem_cons.mpr ⟨ab_d119, List.forall_mem_cons.mpr ⟨ab_d120, List.forall_mem_cons.mpr ⟨ab_d121, List.forall_mem_cons.mpr ⟨ab_d122, List.forall_mem_cons.mpr ⟨ab_d123, List.forall_mem_cons.mpr ⟨ab_d124, List.forall_mem_cons.mpr ⟨ab_d125, List.forall_mem_cons.mpr ⟨ab_d126, List.forall_mem_cons.mpr ⟨ab_d127, fun _ h => absurd h List.not_mem_nil⟩⟩⟩⟩⟩⟩⟩⟩⟩⟩⟩⟩⟩⟩⟩⟩
theorem ab_dk_8 : ∀ e ∈ ab_mt_8, (e.2.2.2.2.2.all fun q => decide (decode e.2.1 q.1 = .ok (q.2.1, q.2.2))) = true := List.forall_mem_cons.mpr ⟨ab_d128, List.forall_mem_cons.mpr ⟨ab_d129, List.forall_mem_cons.mpr ⟨ab_d130, List.forall_mem_cons.mpr ⟨ab_d131, List.forall_mem_cons.mpr ⟨ab_d132, List.forall_mem_cons.mpr ⟨ab_d133, List.forall_mem_cons.mpr ⟨ab_d134, List.forall_mem_cons.mpr ⟨ab_d135, List.forall_mem_cons.mpr ⟨ab_d136, List.forall_mem_cons.mpr ⟨ab_d137, List.forall_mem_cons.mpr ⟨ab_d138, List.forall_mem_cons.mpr ⟨ab_d139, List.forall_mem_cons.mpr ⟨ab_d140, List.forall_mem_cons.mpr ⟨ab_d141, List.forall_mem_cons.mpr ⟨ab_d142, List.forall_mem_cons.mpr ⟨ab_d143, fun _ h => absurd h List.not_mem_nil⟩⟩⟩⟩⟩⟩⟩⟩⟩⟩⟩⟩⟩⟩⟩⟩
theorem ab_dk_9 : ∀ e ∈ ab_mt_9, (e.2.2.2.2.2.all fun q => decide (decode e.2.1 q.1 = .ok (q.2.1, q.2.2))) = true := List.forall_mem_cons.mpr ⟨ab_d144, List.forall_mem_cons.mpr ⟨ab_d145, List.forall_mem_cons.mpr ⟨ab_d146, List.forall_mem_cons.mpr ⟨ab_d147, List.forall_mem_cons.mpr ⟨ab_d148, List.forall_mem_cons.mpr ⟨ab_d149, List.forall_mem_cons.mpr ⟨ab_d150, List.forall_mem_cons.mpr ⟨ab_d151, List.forall_mem_cons.mpr ⟨ab_d152, List.forall_mem_cons.mpr ⟨ab_d153, List.forall_mem_cons.mpr ⟨ab_d154, List.forall_mem_cons.mpr ⟨ab_d155, List.forall_mem_cons.mpr ⟨ab_d156, List.forall_mem_cons.mpr ⟨ab_d157, List.forall_mem_cons.mpr ⟨ab_d158, List.forall_mem_cons.mpr ⟨ab_d159, fun _ h => absurd h List.not_mem_nil⟩⟩⟩⟩⟩⟩⟩⟩⟩⟩⟩⟩⟩⟩⟩⟩
theorem ab_dk_10 : ∀ e ∈ ab_mt_10, (e.2.2.2.2.2.all fun q => decide (decode e.2.1 q.1 = .ok (q.2.1, q.2.2))) = true := List.forall_mem_cons.mpr ⟨ab_d160, List.forall_mem_cons.mpr ⟨ab_d161, List.forall_mem_cons.mpr ⟨ab_d162, List.forall_mem_cons.mpr ⟨ab_d163, List.forall_mem_cons.mpr ⟨ab_d164, List.forall_mem_cons.mpr ⟨ab_d165, List.forall_mem_cons.mpr ⟨ab_d166, List.forall_mem_cons.mpr ⟨ab_d167, List.forall_mem_cons.mpr ⟨ab_d168, List.forall_mem_cons.mpr ⟨ab_d169, List.forall_mem_cons.mpr ⟨ab_d170, List.forall_mem_cons.mpr ⟨ab_d171, List.forall_mem_cons.mpr ⟨ab_d172, List.forall_mem_cons.mpr ⟨ab_d173, List.forall_mem_cons.mpr ⟨ab_d174, List.forall_mem_cons.mpr ⟨ab_d175, fun _ h => absurd h List.not_mem_nil⟩⟩⟩⟩⟩⟩⟩⟩⟩⟩⟩⟩⟩⟩⟩⟩
theorem ab_dk_11 : ∀ e ∈ ab_mt_11, (e.2.2.2.2.2.all fun q => decide (decode e.2.1 q.1 = .ok (q.2.1, q.2.2))) = true := List.forall_mem_cons.mpr ⟨ab_d176, List.forall_mem_cons.mpr ⟨ab_d177, List.forall_mem_cons.mpr ⟨ab_d178, List.forall_mem_cons.mpr ⟨ab_d179, List.forall_mem_cons.mpr ⟨ab_d180, List.forall_mem_cons.mpr ⟨ab_d181, List.forall_mem_cons.mpr ⟨ab_d182, List.forall_mem_cons.mpr ⟨ab_d183, List.forall_mem_cons.mpr ⟨ab_d184, List.forall_mem_cons.mpr ⟨ab_d185, List.forall_mem_cons.mpr ⟨ab_d186, List.forall_mem_cons.mpr ⟨ab_d187, List.forall_mem_cons.mpr ⟨ab_d188, List.forall_mem_cons.mpr ⟨ab_d189, List.forall_mem_cons.mpr ⟨ab_d190, List.forall_mem_cons.mpr ⟨ab_d191, fun _ h => absurd h List.not_mem_nil⟩⟩⟩⟩⟩⟩⟩⟩⟩⟩⟩⟩⟩⟩⟩⟩
set_option maxRecDepth 20000 in
theorem ab_mt_cut2 : ab_mt = (ab_mt_0 ++ ab_mt_1 ++ ab_mt_2 ++ ab_mt_3 ++ ab_mt_4 ++ ab_mt_5 ++ ab_mt_6 ++ ab_mt_7 ++ ab_mt_8 ++ ab_mt_9 ++ ab_mt_10 ++ ab_mt_11) ++ [ab_e192] := rfl
theorem ab_dall : ∀ e ∈ ab_mt, (e.2.2.2.2.2.all fun q => decide (decode e.2.1 q.1 = .ok (q.2.1, q.2.2))) = true := by
  rw [ab_mt_cut2]
  intro e h
  simp only [List.mem_append, List.mem_singleton] at h
  rcases h with (((((((((((h | h) | h) | h) | h) | h) | h) | h) | h) | h) | h) | h) | h
  · exact ab_dk_0 e h
  · exact ab_dk_1 e h
  · exact ab_dk_2 e h
  · exact ab_dk_3 e h
  · exact ab_dk_4 e h
  · exact ab_dk_5 e h
  · exact ab_dk_6 e h
  · exact ab_dk_7 e h
  · exact ab_dk_8 e h
  · exact ab_dk_9 e h
  · exact ab_dk_10 e h
  · exact ab_dk_11 e h
  · rw [h]; exact ab_d192
def ab_lens (ins : Instr) (len : Nat) : Nat := match ins with
  | .bipush _ | .iload _ | .lload _ | .aload _ | .istore _ | .lstore _ | .astore _ => 2
  | .sipush _ | .ldc2_w _ | .ldc_w _ | .iinc _ _ | .ifCond _ _ | .if_icmp _ _ | .goto _ | .getfield _ | .putfield _ | .getstatic _ | .invokestatic _ | .invokevirtual _ => 3
  | .tableswitch _ _ _ _ => len
  | _ => 1
theorem ab_lens_ok : (ab_mt.all fun e => e.2.2.2.2.2.all fun q => decide (q.2.2 = ab_lens q.2.1 q.2.2)) = true := by decide +kernel
theorem ab_lk_spec {M pc : Nat} {q : Nat × Option FieldType × Instr} {E : ab_E} (hE : ab_mt[M]? = some E) (h : ab_lk M pc = some q) : q.1 = E.2.2.2.2.1 ∧ q.2.1 = E.2.2.2.1 ∧ ∃ len, decode E.2.1 pc = .ok (q.2.2, ab_lens q.2.2 len) := by
  unfold ab_lk at h
  rw [hE] at h
  dsimp only at h
  split at h
  · rename_i z hz
    cases h
    refine ⟨rfl, rfl, z.2.2, ?_⟩
    have hm := List.mem_of_find?_eq_some hz
    have h1 := List.find?_some hz
    simp only [beq_iff_eq] at h1
    have h2 := of_decide_eq_true (List.all_eq_true.mp (ab_dall E (List.mem_of_getElem? hE)) z hm)
    have h3 := of_decide_eq_true (List.all_eq_true.mp (List.all_eq_true.mp ab_lens_ok E (List.mem_of_getElem? hE)) z hm)
    rw [← h1, ← h3]
    exact h2
  · cases h
theorem ab_la0_len (ad : Nat → Nat) : ∀ as : List Value, (lg_sl (as.map (ab_cv ad))).length = (ab_la0 as).length
  | [] => rfl
  | v :: t => by
    have ih := ab_la0_len ad t
    unfold lg_sl at ih ⊢
    simp only [List.map_cons, List.flatMap_cons, List.length_append, ab_la0, ab_cv_cat]
    split <;> simp [ih] <;> omega
theorem ab_args_mem (ad : Nat → Nat) : ∀ (as : List Value) (i0 j : Nat) (v : Value), (ab_la0 as)[j]? = some v → v ≠ .null → (i0 + j, ab_cv ad v) ∈ lv_args i0 (as.map (ab_cv ad))
  | [], _, _, _, h, _ => by simp [ab_la0] at h
  | w :: t, i0, j, v, h, hn => by
    simp only [List.map_cons, lv_args, ab_cv_cat]
    simp only [ab_la0] at h
    split at h
    · rename_i hc
      rw [if_pos hc]
      match j, h with
      | 0, h => cases h; exact List.mem_cons_self
      | 1, h => cases h; exact absurd rfl hn
      | j + 2, h =>
        refine List.mem_cons_of_mem _ ?_
        have := ab_args_mem ad t (i0 + 2) j v (by simpa using h) hn
        rwa [show i0 + 2 + j = i0 + (j + 2) by omega] at this
    · rename_i hc
      rw [if_neg hc]
      match j, h with
      | 0, h => cases h; exact List.mem_cons_self
      | j + 1, h =>
        refine List.mem_cons_of_mem _ ?_
        have := ab_args_mem ad t (i0 + 1) j v (by simpa using h) hn
        rwa [show i0 + 1 + j = i0 + (j + 1) by omega] at this
theorem ab_en_get {n j : Nat} {as : List Value} {v : Value} (h : (ab_en n as)[j]? = some v) (hn : v ≠ .null) : (ab_la0 as)[j]? = some v := by
  unfold ab_en at h
  by_cases hj : j < (ab_la0 as).length
  · rwa [List.getElem?_append_left hj] at h
  · rw [List.getElem?_append_right (by omega), List.getElem?_replicate] at h
    split at h
    · cases h; exact absurd rfl hn
    · cases h
theorem ab_en_len {n : Nat} {as : List Value} (h : (ab_la0 as).length ≤ n) : (ab_en n as).length = n := by
  unfold ab_en
  simp
  omega
theorem ab_en_lok {n : Nat} {as : List Value} {lg : List Nat} (h : ab_okL lg (ab_la0 as) = true) : ab_Lok lg (ab_en n as) := by
  intro j v hv hc
  have hn : v ≠ .null := by rintro rfl; cases hc
  have h1 := ab_en_get hv hn
  unfold ab_okL at h
  have h2 := List.all_eq_true.mp h (v, j) (List.mk_mem_zipIdx_iff_getElem?.mpr h1)
  simp only [Bool.or_eq_true, bne_iff_ne, ne_eq] at h2
  rcases h2 with h2 | h2
  · exact absurd hc h2
  · exact h2
/-- the end of a method's run, as its return instruction wants it -/
def ab_End (rt : Option FieldType) (cc : ByteArray) (v : Option Value) (pc : Nat) (st : List Value) : Prop := match v with
  | none => rt = none ∧ decode cc pc = .ok (.return_, 1) ∧ st = []
  | some (.int x) => ab_rk rt x = true ∧ decode cc pc = .ok (.ireturn, 1) ∧ st = [.int x]
  | some (.long x) => rt = some .long ∧ decode cc pc = .ok (.lreturn, 1) ∧ st = [.long x]
  | _ => False
abbrev ab_Sim (l : Launch) (D : va_G) (base : Nat) (ad : Nat → Nat) (cA : Nat → ClassId) (X : ab_X) (n : Nat) : Prop :=
  ∀ (d M pc : Nat) (lv st : List Value) (h : ab_H) (r : ab_R), ab_xF X n d M pc lv st h = some r →
    ∀ {p : Program} {e : Env} {R : Room} {s : State} {m : MethodId} {args : Array Value} {below : List Frame} {meth : Method} {c : Code} {H : Heap} {locs : List Loc} {cells slots : Nat} {Q : State → Prop} {E : ab_E} {h0 : ab_H} {ls : Array Slot},
    ab_mt[M]? = some E → p.tables.exec = Jvm.exec → c.code = E.2.1 → c.maxLocals = E.2.2.1 → s.vm.findClass (ab_onm E.2.2.2.2.1) = some m.cls → (∀ w ∈ ab_tb, w.before args s = true) → ab_B D base ad cA X h0 s → (d + 1 ≤ R.frames ∧ 100 * (d + 1) ≤ R.locals) → (cells ≤ R.cells ∧ slots ≤ R.slots) →
    va_P D vwCl (ab_w ad cA h) H → va_S (ab_A base) s.heap H locs → lv_has ls E.2.2.1 (ab_lp ad lv) → lv.length = E.2.2.1 → ab_Lok (ab_Lg M) lv →
    (∀ (H : Heap) (locs : List Loc) (ls : Array Slot) (pc : Nat) (st : List Value), va_P D vwCl (ab_w ad cA r.2) H → va_S (ab_A base) s.heap H locs → ab_End E.2.2.2.1 E.2.1 r.1 pc st → W p l e R s m args below meth c H locs cells slots Q (F0 m pc ls (st.map (ab_cv ad)))) →
    W p l e R s m args below meth c H locs cells slots Q (F0 m pc ls (st.map (ab_cv ad)))
set_option maxHeartbeats 1000000 in
theorem ab_ctr {l : Launch} {D : va_G} {base : Nat} {ad : Nat → Nat} {cA : Nat → ClassId} {X : ab_X} {n : Nat} (ih : ab_Sim l D base ad cA X n) {d M : Nat} {as : List Value} {h : ab_H} {z : ab_R} (q : ab_xF X n d M 0 (ab_en (ab_ml M) as) [] h = some z) (h1 : (ab_la0 as).length ≤ ab_ml M ∧ ab_okL (ab_Lg M) (ab_la0 as) = true)
    (hpl : ∀ E, ab_mt[M]? = some E → plainName E.1.cls = true ∧ ab_onm E.2.2.2.2.1 = E.1.cls) : ab_Ct l D base ad cA X d M as h z := by
  intro E hE
  have hmlE : ab_ml M = E.2.2.1 := by unfold ab_ml; rw [hE]
  rw [hmlE] at q h1
  refine Met.ofW (cc := E.2.1) (maxL := E.2.2.1) (ret := E.2.2.2.1) (hpl E hE).1 rfl ?_
  intro p e s m args below meth c s₁ Bd hml hv
  obtain ⟨rfl, hB⟩ := hv
  have hx := Bd.exec
  have hb := Bd.bytes
  have hr := Bd.returns
  have hts := atoms_spec (ws := Cond.code E.1 E.2.1 E.2.2.1 E.2.2.2.1 :: ab_tb) Bd.pre
  have hown : s.vm.findClass E.1.cls = some m.cls := findClass_of_methodNamed Bd.named
  have hlocks := Bd.notSynchronized
  have hl := lv_entry (as.map (ab_cv ad)) (n := E.2.2.1) (by rw [ab_la0_len]; exact h1.1)
  rw [lg_entry_eq]
  generalize (lg_sl (as.map (ab_cv ad)) ++ List.replicate (E.2.2.1 - (lg_sl (as.map (ab_cv ad))).length) Slot.unset).toArray = ls at hl ⊢
  have hl2 : lv_has ls E.2.2.1 (ab_lp ad (ab_en E.2.2.1 as)) := ⟨hl.1, hl.2.1, fun w hw => hl.2.2 w (by
    obtain ⟨v, hv, hn, he⟩ := ab_lp_mem.mp hw
    have h3 := ab_args_mem ad as 0 w.1 v (ab_en_get hv hn) hn
    rw [Nat.zero_add, ← he] at h3
    exact h3)⟩
  refine ih d M 0 _ [] h z q hE hx hb hml (by rw [(hpl E hE).2]; exact hown) (fun w hw => hts w (List.mem_cons_of_mem _ hw)) hB ⟨Nat.le_refl _, Nat.le_refl _⟩ ⟨Nat.le_refl _, Nat.le_refl _⟩ hB.2.1 va_S.rf hl2 (ab_en_len h1.1) (ab_en_lok h1.2) ?_
  intro H locs ls pc st hP hS hend
  obtain ⟨v, h'⟩ := z
  cases v with
  | none =>
    obtain ⟨e1, e2, rfl⟩ := hend
    rw [e1] at hr
    exact W.vret hx hb hr (fun t ht _ => ⟨⟨h', rfl, rfl, by dsimp only; rw [ht]; exact hP⟩, hS.F ht⟩) hS.2.2 e2
  | some v =>
    cases v with
    | int x =>
      obtain ⟨e1, e2, rfl⟩ := hend
      have hq : ∀ t : State, t.heap = H → s.WarmedH t.vm → ab_Qc D base ad cA (some (.int x), h') (as.map (ab_cv ad)).toArray s (.returned (some (.int x))) t := fun t ht _ => ⟨⟨x, h', rfl, ⟨rfl, rfl⟩, by dsimp only; rw [ht]; exact hP⟩, hS.F ht⟩
      cases hrt : E.2.2.2.1 with
      | none => rw [hrt] at e1; cases e1
      | some ty =>
        rw [hrt] at e1 hr
        cases ty with
        | int => exact W.iret hx hb hr hq hS.2.2 e2
        | boolean =>
          simp only [ab_rk, Bool.or_eq_true, decide_eq_true_eq] at e1
          refine W.zret hx hb hr ?_ hq hS.2.2 e2
          rcases e1 with rfl | rfl <;> rfl
        | _ => cases e1
    | long x =>
      obtain ⟨e1, e2, rfl⟩ := hend
      rw [e1] at hr
      exact W.lret hx hb hr (fun t ht _ => ⟨⟨x, h', rfl, ⟨rfl, rfl⟩, by dsimp only; rw [ht]; exact hP⟩, hS.F ht⟩) hS.2.2 e2
    | _ => exact False.elim hend
set_option maxHeartbeats 1000000 in
theorem ab_sim (l : Launch) {D : va_G} {base : Nat} {ad : Nat → Nat} {cA : Nat → ClassId} {X : ab_X} (hG : ab_G base ad cA) : ∀ n, ab_Sim l D base ad cA X n
  | 0 => fun _ _ _ _ _ _ _ q => by cases q
  | n + 1 => by
    intro d M pc lv st h r q p e R s m args below meth c H locs cells slots Q E h0 ls hE hx hb hml hown hts hB hR hcs hP hS hl hn hL hend
    have ih := ab_sim l (D := D) (X := X) hG n
    rw [ab_xF_s] at q
    unfold ab_sp at q
    cases hlk : ab_lk M pc with
    | none => rw [hlk] at q; cases q
    | some w =>
      rw [hlk] at q
      obtain ⟨w1, w2, len, w3⟩ := ab_lk_spec hE hlk
      dsimp only at q
      rw [w1, w2] at q
      refine ab_step (d := d) (len := len) hx hb hml hown hts hG hB hR hcs (fun n hn => by rw [hn]; exact w3) hP hS hl hn hL ?_ ?_ ?_ q
      · intro pc lv st h q H locs ls hP hS hl hn hL
        exact ih d M pc lv st h r q hE hx hb hml hown hts hB hR hcs hP hS hl hn hL hend
      · intro m' as h k q
        cases d with
        | zero => cases q
        | succ d =>
          dsimp only at q
          obtain ⟨z, hz, q⟩ := Option.bind_eq_some_iff.mp q
          exact ⟨z, d, q, rfl, fun g1 _ g3 => ab_ctr ih hz g1 g3⟩
      · intro H locs ls hP hS he
        exact hend H locs ls pc st hP hS he
end
