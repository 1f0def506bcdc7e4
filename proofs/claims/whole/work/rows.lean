section
-- ===== PART A: goes FIRST, ahead of the names: the tables' words, and 'selects' of the private methods out of them =====
/-- a private method of a class that the tables say can be made, by its rows of tables_1 -/
def lw_okq (q : MethodName × Nat) : Prop := (q.1.cls ≠ "java/lang/invoke/MethodHandle" ∧ q.1.cls ≠ "java/lang/invoke/VarHandle") ∧ Cond.instantiable q.1.cls q.2 ∈ tables_1 ∧ Cond.privateMethod q.1 ∈ tables_1 ∧ Cond.instanceMethod q.1 ∈ tables_1
theorem lw_p0 : lw_okq (⟨"KeyTrees$Book", "fullRefusal", "()I"⟩, 11) := ⟨⟨by decide +kernel, by decide +kernel⟩, List.mem_of_getElem? (i := 24) (by decide +kernel), List.mem_of_getElem? (i := 336) (by decide +kernel), List.mem_of_getElem? (i := 337) (by decide +kernel)⟩
theorem lw_p1 : lw_okq (⟨"KeyTrees$Seats", "stand", "(I)V"⟩, 2) := ⟨⟨by decide +kernel, by decide +kernel⟩, List.mem_of_getElem? (i := 30) (by decide +kernel), List.mem_of_getElem? (i := 349) (by decide +kernel), List.mem_of_getElem? (i := 350) (by decide +kernel)⟩
theorem lw_p2 : lw_okq (⟨"KeyTrees$Seats", "emptiestLeaf", "()I"⟩, 2) := ⟨⟨by decide +kernel, by decide +kernel⟩, List.mem_of_getElem? (i := 30) (by decide +kernel), List.mem_of_getElem? (i := 356) (by decide +kernel), List.mem_of_getElem? (i := 357) (by decide +kernel)⟩
theorem lw_p3 : lw_okq (⟨"KeyTrees$Seats", "sit", "(II)V"⟩, 2) := ⟨⟨by decide +kernel, by decide +kernel⟩, List.mem_of_getElem? (i := 30) (by decide +kernel), List.mem_of_getElem? (i := 365) (by decide +kernel), List.mem_of_getElem? (i := 366) (by decide +kernel)⟩
theorem lw_p4 : lw_okq (⟨"KeyTrees$Keys", "add", "(II)I"⟩, 5) := ⟨⟨by decide +kernel, by decide +kernel⟩, List.mem_of_getElem? (i := 48) (by decide +kernel), List.mem_of_getElem? (i := 378) (by decide +kernel), List.mem_of_getElem? (i := 379) (by decide +kernel)⟩
theorem lw_p5 : lw_okq (⟨"KeyTrees$Book", "tellChanged", "(I)V"⟩, 11) := ⟨⟨by decide +kernel, by decide +kernel⟩, List.mem_of_getElem? (i := 24) (by decide +kernel), List.mem_of_getElem? (i := 390) (by decide +kernel), List.mem_of_getElem? (i := 391) (by decide +kernel)⟩
theorem lw_p6 : lw_okq (⟨"KeyTrees$Book", "tell", "(II)V"⟩, 11) := ⟨⟨by decide +kernel, by decide +kernel⟩, List.mem_of_getElem? (i := 24) (by decide +kernel), List.mem_of_getElem? (i := 394) (by decide +kernel), List.mem_of_getElem? (i := 395) (by decide +kernel)⟩
theorem lw_p7 : lw_okq (⟨"KeyTrees$Book", "readByAll", "()V"⟩, 11) := ⟨⟨by decide +kernel, by decide +kernel⟩, List.mem_of_getElem? (i := 24) (by decide +kernel), List.mem_of_getElem? (i := 403) (by decide +kernel), List.mem_of_getElem? (i := 404) (by decide +kernel)⟩
theorem lw_p8 : lw_okq (⟨"KeyTrees$Book", "readUnread", "(I)I"⟩, 11) := ⟨⟨by decide +kernel, by decide +kernel⟩, List.mem_of_getElem? (i := 24) (by decide +kernel), List.mem_of_getElem? (i := 411) (by decide +kernel), List.mem_of_getElem? (i := 412) (by decide +kernel)⟩
theorem lw_p9 : lw_okq (⟨"KeyTrees$Book", "holdsAllAbove", "(I)Z"⟩, 11) := ⟨⟨by decide +kernel, by decide +kernel⟩, List.mem_of_getElem? (i := 24) (by decide +kernel), List.mem_of_getElem? (i := 461) (by decide +kernel), List.mem_of_getElem? (i := 462) (by decide +kernel)⟩
theorem lw_p10 : lw_okq (⟨"KeyTrees$Ring", "lacks", "(I)Z"⟩, 2) := ⟨⟨by decide +kernel, by decide +kernel⟩, List.mem_of_getElem? (i := 195) (by decide +kernel), List.mem_of_getElem? (i := 560) (by decide +kernel), List.mem_of_getElem? (i := 561) (by decide +kernel)⟩
theorem lw_p11 : lw_okq (⟨"KeyTrees", "planSingles", "()I"⟩, 9) := ⟨⟨by decide +kernel, by decide +kernel⟩, List.mem_of_getElem? (i := 16) (by decide +kernel), List.mem_of_getElem? (i := 576) (by decide +kernel), List.mem_of_getElem? (i := 577) (by decide +kernel)⟩
theorem lw_p12 : lw_okq (⟨"KeyTrees", "doEvents", "()I"⟩, 9) := ⟨⟨by decide +kernel, by decide +kernel⟩, List.mem_of_getElem? (i := 16) (by decide +kernel), List.mem_of_getElem? (i := 617) (by decide +kernel), List.mem_of_getElem? (i := 618) (by decide +kernel)⟩
theorem lw_p13 : lw_okq (⟨"KeyTrees", "doEvent", "(CZ)Z"⟩, 9) := ⟨⟨by decide +kernel, by decide +kernel⟩, List.mem_of_getElem? (i := 16) (by decide +kernel), List.mem_of_getElem? (i := 621) (by decide +kernel), List.mem_of_getElem? (i := 622) (by decide +kernel)⟩
theorem lw_p14 : lw_okq (⟨"KeyTrees", "driftOnce", "()V"⟩, 9) := ⟨⟨by decide +kernel, by decide +kernel⟩, List.mem_of_getElem? (i := 16) (by decide +kernel), List.mem_of_getElem? (i := 648) (by decide +kernel), List.mem_of_getElem? (i := 649) (by decide +kernel)⟩
theorem lw_p15 : lw_okq (⟨"KeyTrees", "toldLetters", "(LKeyTrees$Sheet;II)Z"⟩, 9) := ⟨⟨by decide +kernel, by decide +kernel⟩, List.mem_of_getElem? (i := 16) (by decide +kernel), List.mem_of_getElem? (i := 697) (by decide +kernel), List.mem_of_getElem? (i := 698) (by decide +kernel)⟩
def lw_privs_1 : List (MethodName × Nat) := [(⟨"KeyTrees$Book", "fullRefusal", "()I"⟩, 11), (⟨"KeyTrees$Seats", "stand", "(I)V"⟩, 2), (⟨"KeyTrees$Seats", "emptiestLeaf", "()I"⟩, 2), (⟨"KeyTrees$Seats", "sit", "(II)V"⟩, 2), (⟨"KeyTrees$Keys", "add", "(II)I"⟩, 5), (⟨"KeyTrees$Book", "tellChanged", "(I)V"⟩, 11), (⟨"KeyTrees$Book", "tell", "(II)V"⟩, 11), (⟨"KeyTrees$Book", "readByAll", "()V"⟩, 11), (⟨"KeyTrees$Book", "readUnread", "(I)I"⟩, 11), (⟨"KeyTrees$Book", "holdsAllAbove", "(I)Z"⟩, 11), (⟨"KeyTrees$Ring", "lacks", "(I)Z"⟩, 2), (⟨"KeyTrees", "planSingles", "()I"⟩, 9), (⟨"KeyTrees", "doEvents", "()I"⟩, 9), (⟨"KeyTrees", "doEvent", "(CZ)Z"⟩, 9), (⟨"KeyTrees", "driftOnce", "()V"⟩, 9), (⟨"KeyTrees", "toldLetters", "(LKeyTrees$Sheet;II)Z"⟩, 9)]
theorem lw_r1 : ∀ q ∈ lw_privs_1, lw_okq q := List.forall_mem_cons.mpr ⟨lw_p0, List.forall_mem_cons.mpr ⟨lw_p1, List.forall_mem_cons.mpr ⟨lw_p2, List.forall_mem_cons.mpr ⟨lw_p3, List.forall_mem_cons.mpr ⟨lw_p4, List.forall_mem_cons.mpr ⟨lw_p5, List.forall_mem_cons.mpr ⟨lw_p6, List.forall_mem_cons.mpr ⟨lw_p7, List.forall_mem_cons.mpr ⟨lw_p8, List.forall_mem_cons.mpr ⟨lw_p9, List.forall_mem_cons.mpr ⟨lw_p10, List.forall_mem_cons.mpr ⟨lw_p11, List.forall_mem_cons.mpr ⟨lw_p12, List.forall_mem_cons.mpr ⟨lw_p13, List.forall_mem_cons.mpr ⟨lw_p14, List.forall_mem_cons.mpr ⟨lw_p15, fun _ h => absurd h List.not_mem_nil⟩⟩⟩⟩⟩⟩⟩⟩⟩⟩⟩⟩⟩⟩⟩⟩
theorem lw_p16 : lw_okq (⟨"KeyTreesModel", "sits", "(I)Z"⟩, 19) := ⟨⟨by decide +kernel, by decide +kernel⟩, List.mem_of_getElem? (i := 735) (by decide +kernel), List.mem_of_getElem? (i := 810) (by decide +kernel), List.mem_of_getElem? (i := 811) (by decide +kernel)⟩
theorem lw_p17 : lw_okq (⟨"KeyTreesModel", "of", "(II)I"⟩, 19) := ⟨⟨by decide +kernel, by decide +kernel⟩, List.mem_of_getElem? (i := 735) (by decide +kernel), List.mem_of_getElem? (i := 814) (by decide +kernel), List.mem_of_getElem? (i := 815) (by decide +kernel)⟩
theorem lw_p18 : lw_okq (⟨"KeyTreesModel", "notes", "()V"⟩, 19) := ⟨⟨by decide +kernel, by decide +kernel⟩, List.mem_of_getElem? (i := 735) (by decide +kernel), List.mem_of_getElem? (i := 818) (by decide +kernel), List.mem_of_getElem? (i := 819) (by decide +kernel)⟩
theorem lw_p19 : lw_okq (⟨"KeyTreesModel", "put", "(III)V"⟩, 19) := ⟨⟨by decide +kernel, by decide +kernel⟩, List.mem_of_getElem? (i := 735) (by decide +kernel), List.mem_of_getElem? (i := 822) (by decide +kernel), List.mem_of_getElem? (i := 823) (by decide +kernel)⟩
theorem lw_p20 : lw_okq (⟨"KeyTreesModel", "those", "(II)I"⟩, 19) := ⟨⟨by decide +kernel, by decide +kernel⟩, List.mem_of_getElem? (i := 735) (by decide +kernel), List.mem_of_getElem? (i := 826) (by decide +kernel), List.mem_of_getElem? (i := 827) (by decide +kernel)⟩
theorem lw_p21 : lw_okq (⟨"KeyTreesModel", "refusal", "()I"⟩, 19) := ⟨⟨by decide +kernel, by decide +kernel⟩, List.mem_of_getElem? (i := 735) (by decide +kernel), List.mem_of_getElem? (i := 841) (by decide +kernel), List.mem_of_getElem? (i := 842) (by decide +kernel)⟩
theorem lw_p22 : lw_okq (⟨"KeyTreesModel", "isFull", "()Z"⟩, 19) := ⟨⟨by decide +kernel, by decide +kernel⟩, List.mem_of_getElem? (i := 735) (by decide +kernel), List.mem_of_getElem? (i := 845) (by decide +kernel), List.mem_of_getElem? (i := 846) (by decide +kernel)⟩
theorem lw_p23 : lw_okq (⟨"KeyTreesModel", "batches", "()I"⟩, 19) := ⟨⟨by decide +kernel, by decide +kernel⟩, List.mem_of_getElem? (i := 735) (by decide +kernel), List.mem_of_getElem? (i := 849) (by decide +kernel), List.mem_of_getElem? (i := 850) (by decide +kernel)⟩
theorem lw_p24 : lw_okq (⟨"KeyTreesModel", "takesSeats", "()V"⟩, 19) := ⟨⟨by decide +kernel, by decide +kernel⟩, List.mem_of_getElem? (i := 735) (by decide +kernel), List.mem_of_getElem? (i := 853) (by decide +kernel), List.mem_of_getElem? (i := 854) (by decide +kernel)⟩
theorem lw_p25 : lw_okq (⟨"KeyTreesModel", "shifts", "(II)V"⟩, 19) := ⟨⟨by decide +kernel, by decide +kernel⟩, List.mem_of_getElem? (i := 735) (by decide +kernel), List.mem_of_getElem? (i := 857) (by decide +kernel), List.mem_of_getElem? (i := 858) (by decide +kernel)⟩
theorem lw_p26 : lw_okq (⟨"KeyTreesModel", "marks", "(I)V"⟩, 19) := ⟨⟨by decide +kernel, by decide +kernel⟩, List.mem_of_getElem? (i := 735) (by decide +kernel), List.mem_of_getElem? (i := 864) (by decide +kernel), List.mem_of_getElem? (i := 865) (by decide +kernel)⟩
theorem lw_p27 : lw_okq (⟨"KeyTreesModel", "leafFor", "()I"⟩, 19) := ⟨⟨by decide +kernel, by decide +kernel⟩, List.mem_of_getElem? (i := 735) (by decide +kernel), List.mem_of_getElem? (i := 868) (by decide +kernel), List.mem_of_getElem? (i := 869) (by decide +kernel)⟩
theorem lw_p28 : lw_okq (⟨"KeyTreesModel", "seated", "(I)I"⟩, 19) := ⟨⟨by decide +kernel, by decide +kernel⟩, List.mem_of_getElem? (i := 735) (by decide +kernel), List.mem_of_getElem? (i := 872) (by decide +kernel), List.mem_of_getElem? (i := 873) (by decide +kernel)⟩
theorem lw_p29 : lw_okq (⟨"KeyTreesModel", "beneath", "(I)I"⟩, 19) := ⟨⟨by decide +kernel, by decide +kernel⟩, List.mem_of_getElem? (i := 735) (by decide +kernel), List.mem_of_getElem? (i := 879) (by decide +kernel), List.mem_of_getElem? (i := 880) (by decide +kernel)⟩
theorem lw_p30 : lw_okq (⟨"KeyTreesModel", "makes", "(I)I"⟩, 19) := ⟨⟨by decide +kernel, by decide +kernel⟩, List.mem_of_getElem? (i := 735) (by decide +kernel), List.mem_of_getElem? (i := 883) (by decide +kernel), List.mem_of_getElem? (i := 884) (by decide +kernel)⟩
theorem lw_p31 : lw_okq (⟨"KeyTreesModel", "keyOf", "(I)I"⟩, 19) := ⟨⟨by decide +kernel, by decide +kernel⟩, List.mem_of_getElem? (i := 735) (by decide +kernel), List.mem_of_getElem? (i := 887) (by decide +kernel), List.mem_of_getElem? (i := 888) (by decide +kernel)⟩
def lw_privs_2 : List (MethodName × Nat) := [(⟨"KeyTreesModel", "sits", "(I)Z"⟩, 19), (⟨"KeyTreesModel", "of", "(II)I"⟩, 19), (⟨"KeyTreesModel", "notes", "()V"⟩, 19), (⟨"KeyTreesModel", "put", "(III)V"⟩, 19), (⟨"KeyTreesModel", "those", "(II)I"⟩, 19), (⟨"KeyTreesModel", "refusal", "()I"⟩, 19), (⟨"KeyTreesModel", "isFull", "()Z"⟩, 19), (⟨"KeyTreesModel", "batches", "()I"⟩, 19), (⟨"KeyTreesModel", "takesSeats", "()V"⟩, 19), (⟨"KeyTreesModel", "shifts", "(II)V"⟩, 19), (⟨"KeyTreesModel", "marks", "(I)V"⟩, 19), (⟨"KeyTreesModel", "leafFor", "()I"⟩, 19), (⟨"KeyTreesModel", "seated", "(I)I"⟩, 19), (⟨"KeyTreesModel", "beneath", "(I)I"⟩, 19), (⟨"KeyTreesModel", "makes", "(I)I"⟩, 19), (⟨"KeyTreesModel", "keyOf", "(I)I"⟩, 19)]
theorem lw_r2 : ∀ q ∈ lw_privs_2, lw_okq q := List.forall_mem_cons.mpr ⟨lw_p16, List.forall_mem_cons.mpr ⟨lw_p17, List.forall_mem_cons.mpr ⟨lw_p18, List.forall_mem_cons.mpr ⟨lw_p19, List.forall_mem_cons.mpr ⟨lw_p20, List.forall_mem_cons.mpr ⟨lw_p21, List.forall_mem_cons.mpr ⟨lw_p22, List.forall_mem_cons.mpr ⟨lw_p23, List.forall_mem_cons.mpr ⟨lw_p24, List.forall_mem_cons.mpr ⟨lw_p25, List.forall_mem_cons.mpr ⟨lw_p26, List.forall_mem_cons.mpr ⟨lw_p27, List.forall_mem_cons.mpr ⟨lw_p28, List.forall_mem_cons.mpr ⟨lw_p29, List.forall_mem_cons.mpr ⟨lw_p30, List.forall_mem_cons.mpr ⟨lw_p31, fun _ h => absurd h List.not_mem_nil⟩⟩⟩⟩⟩⟩⟩⟩⟩⟩⟩⟩⟩⟩⟩⟩
theorem lw_p32 : lw_okq (⟨"KeyTreesModel", "nodeOf", "(I)I"⟩, 19) := ⟨⟨by decide +kernel, by decide +kernel⟩, List.mem_of_getElem? (i := 735) (by decide +kernel), List.mem_of_getElem? (i := 891) (by decide +kernel), List.mem_of_getElem? (i := 892) (by decide +kernel)⟩
theorem lw_p33 : lw_okq (⟨"KeyTreesModel", "writes", "(III)V"⟩, 19) := ⟨⟨by decide +kernel, by decide +kernel⟩, List.mem_of_getElem? (i := 735) (by decide +kernel), List.mem_of_getElem? (i := 895) (by decide +kernel), List.mem_of_getElem? (i := 896) (by decide +kernel)⟩
theorem lw_p34 : lw_okq (⟨"KeyTreesModel", "readAll", "()V"⟩, 19) := ⟨⟨by decide +kernel, by decide +kernel⟩, List.mem_of_getElem? (i := 735) (by decide +kernel), List.mem_of_getElem? (i := 900) (by decide +kernel), List.mem_of_getElem? (i := 901) (by decide +kernel)⟩
theorem lw_p35 : lw_okq (⟨"KeyTreesModel", "reads", "(I)I"⟩, 19) := ⟨⟨by decide +kernel, by decide +kernel⟩, List.mem_of_getElem? (i := 735) (by decide +kernel), List.mem_of_getElem? (i := 904) (by decide +kernel), List.mem_of_getElem? (i := 905) (by decide +kernel)⟩
theorem lw_p36 : lw_okq (⟨"KeyTreesModel", "underOf", "(I)I"⟩, 19) := ⟨⟨by decide +kernel, by decide +kernel⟩, List.mem_of_getElem? (i := 735) (by decide +kernel), List.mem_of_getElem? (i := 908) (by decide +kernel), List.mem_of_getElem? (i := 909) (by decide +kernel)⟩
theorem lw_p37 : lw_okq (⟨"KeyTreesModel", "holds", "(II)Z"⟩, 19) := ⟨⟨by decide +kernel, by decide +kernel⟩, List.mem_of_getElem? (i := 735) (by decide +kernel), List.mem_of_getElem? (i := 912) (by decide +kernel), List.mem_of_getElem? (i := 913) (by decide +kernel)⟩
theorem lw_p38 : lw_okq (⟨"KeyTreesModel", "inOf", "(I)I"⟩, 19) := ⟨⟨by decide +kernel, by decide +kernel⟩, List.mem_of_getElem? (i := 735) (by decide +kernel), List.mem_of_getElem? (i := 916) (by decide +kernel), List.mem_of_getElem? (i := 917) (by decide +kernel)⟩
theorem lw_p39 : lw_okq (⟨"KeyTreesModel", "mendRefusal", "(I)I"⟩, 19) := ⟨⟨by decide +kernel, by decide +kernel⟩, List.mem_of_getElem? (i := 735) (by decide +kernel), List.mem_of_getElem? (i := 933) (by decide +kernel), List.mem_of_getElem? (i := 934) (by decide +kernel)⟩
theorem lw_p40 : lw_okq (⟨"KeyTreesModel", "lacks", "(I)I"⟩, 19) := ⟨⟨by decide +kernel, by decide +kernel⟩, List.mem_of_getElem? (i := 735) (by decide +kernel), List.mem_of_getElem? (i := 937) (by decide +kernel), List.mem_of_getElem? (i := 938) (by decide +kernel)⟩
theorem lw_p41 : lw_okq (⟨"KeyTreesModel", "mends", "(I)I"⟩, 19) := ⟨⟨by decide +kernel, by decide +kernel⟩, List.mem_of_getElem? (i := 735) (by decide +kernel), List.mem_of_getElem? (i := 941) (by decide +kernel), List.mem_of_getElem? (i := 942) (by decide +kernel)⟩
theorem lw_p42 : lw_okq (⟨"KeyTreesModel", "lacking", "()I"⟩, 19) := ⟨⟨by decide +kernel, by decide +kernel⟩, List.mem_of_getElem? (i := 735) (by decide +kernel), List.mem_of_getElem? (i := 953) (by decide +kernel), List.mem_of_getElem? (i := 954) (by decide +kernel)⟩
theorem lw_p43 : lw_okq (⟨"KeyTreesModel", "held", "(I)I"⟩, 19) := ⟨⟨by decide +kernel, by decide +kernel⟩, List.mem_of_getElem? (i := 735) (by decide +kernel), List.mem_of_getElem? (i := 961) (by decide +kernel), List.mem_of_getElem? (i := 962) (by decide +kernel)⟩
theorem lw_p44 : lw_okq (⟨"KeyTreesModel", "isKey", "(I)Z"⟩, 19) := ⟨⟨by decide +kernel, by decide +kernel⟩, List.mem_of_getElem? (i := 735) (by decide +kernel), List.mem_of_getElem? (i := 974) (by decide +kernel), List.mem_of_getElem? (i := 975) (by decide +kernel)⟩
theorem lw_p45 : lw_okq (⟨"KeyTreesModel", "batchOf", "(I)I"⟩, 19) := ⟨⟨by decide +kernel, by decide +kernel⟩, List.mem_of_getElem? (i := 735) (by decide +kernel), List.mem_of_getElem? (i := 978) (by decide +kernel), List.mem_of_getElem? (i := 979) (by decide +kernel)⟩
theorem lw_p46 : lw_okq (⟨"KeyTreesModel", "isLetter", "(J)Z"⟩, 19) := ⟨⟨by decide +kernel, by decide +kernel⟩, List.mem_of_getElem? (i := 735) (by decide +kernel), List.mem_of_getElem? (i := 986) (by decide +kernel), List.mem_of_getElem? (i := 987) (by decide +kernel)⟩
theorem lw_p47 : lw_okq (⟨"KeyTreesModel", "batchOfLetter", "(I)I"⟩, 19) := ⟨⟨by decide +kernel, by decide +kernel⟩, List.mem_of_getElem? (i := 735) (by decide +kernel), List.mem_of_getElem? (i := 990) (by decide +kernel), List.mem_of_getElem? (i := 991) (by decide +kernel)⟩
def lw_privs_3 : List (MethodName × Nat) := [(⟨"KeyTreesModel", "nodeOf", "(I)I"⟩, 19), (⟨"KeyTreesModel", "writes", "(III)V"⟩, 19), (⟨"KeyTreesModel", "readAll", "()V"⟩, 19), (⟨"KeyTreesModel", "reads", "(I)I"⟩, 19), (⟨"KeyTreesModel", "underOf", "(I)I"⟩, 19), (⟨"KeyTreesModel", "holds", "(II)Z"⟩, 19), (⟨"KeyTreesModel", "inOf", "(I)I"⟩, 19), (⟨"KeyTreesModel", "mendRefusal", "(I)I"⟩, 19), (⟨"KeyTreesModel", "lacks", "(I)I"⟩, 19), (⟨"KeyTreesModel", "mends", "(I)I"⟩, 19), (⟨"KeyTreesModel", "lacking", "()I"⟩, 19), (⟨"KeyTreesModel", "held", "(I)I"⟩, 19), (⟨"KeyTreesModel", "isKey", "(I)Z"⟩, 19), (⟨"KeyTreesModel", "batchOf", "(I)I"⟩, 19), (⟨"KeyTreesModel", "isLetter", "(J)Z"⟩, 19), (⟨"KeyTreesModel", "batchOfLetter", "(I)I"⟩, 19)]
theorem lw_r3 : ∀ q ∈ lw_privs_3, lw_okq q := List.forall_mem_cons.mpr ⟨lw_p32, List.forall_mem_cons.mpr ⟨lw_p33, List.forall_mem_cons.mpr ⟨lw_p34, List.forall_mem_cons.mpr ⟨lw_p35, List.forall_mem_cons.mpr ⟨lw_p36, List.forall_mem_cons.mpr ⟨lw_p37, List.forall_mem_cons.mpr ⟨lw_p38, List.forall_mem_cons.mpr ⟨lw_p39, List.forall_mem_cons.mpr ⟨lw_p40, List.forall_mem_cons.mpr ⟨lw_p41, List.forall_mem_cons.mpr ⟨lw_p42, List.forall_mem_cons.mpr ⟨lw_p43, List.forall_mem_cons.mpr ⟨lw_p44, List.forall_mem_cons.mpr ⟨lw_p45, List.forall_mem_cons.mpr ⟨lw_p46, List.forall_mem_cons.mpr ⟨lw_p47, fun _ h => absurd h List.not_mem_nil⟩⟩⟩⟩⟩⟩⟩⟩⟩⟩⟩⟩⟩⟩⟩⟩
theorem lw_p48 : lw_okq (⟨"KeyTreesModel", "opensAll", "(I)V"⟩, 19) := ⟨⟨by decide +kernel, by decide +kernel⟩, List.mem_of_getElem? (i := 735) (by decide +kernel), List.mem_of_getElem? (i := 1003) (by decide +kernel), List.mem_of_getElem? (i := 1004) (by decide +kernel)⟩
theorem lw_p49 : lw_okq (⟨"KeyTreesModel", "letters", "()I"⟩, 19) := ⟨⟨by decide +kernel, by decide +kernel⟩, List.mem_of_getElem? (i := 735) (by decide +kernel), List.mem_of_getElem? (i := 1011) (by decide +kernel), List.mem_of_getElem? (i := 1012) (by decide +kernel)⟩
theorem lw_p50 : lw_okq (⟨"KeyTreesModel", "goesThrough", "(Z)Z"⟩, 19) := ⟨⟨by decide +kernel, by decide +kernel⟩, List.mem_of_getElem? (i := 735) (by decide +kernel), List.mem_of_getElem? (i := 1030) (by decide +kernel), List.mem_of_getElem? (i := 1031) (by decide +kernel)⟩
theorem lw_p51 : lw_okq (⟨"KeyTreesModel", "here", "()I"⟩, 19) := ⟨⟨by decide +kernel, by decide +kernel⟩, List.mem_of_getElem? (i := 735) (by decide +kernel), List.mem_of_getElem? (i := 1034) (by decide +kernel), List.mem_of_getElem? (i := 1035) (by decide +kernel)⟩
theorem lw_p52 : lw_okq (⟨"KeyTreesModel", "event", "()I"⟩, 19) := ⟨⟨by decide +kernel, by decide +kernel⟩, List.mem_of_getElem? (i := 735) (by decide +kernel), List.mem_of_getElem? (i := 1038) (by decide +kernel), List.mem_of_getElem? (i := 1039) (by decide +kernel)⟩
theorem lw_p53 : lw_okq (⟨"KeyTreesModel", "does", "(I)Z"⟩, 19) := ⟨⟨by decide +kernel, by decide +kernel⟩, List.mem_of_getElem? (i := 735) (by decide +kernel), List.mem_of_getElem? (i := 1046) (by decide +kernel), List.mem_of_getElem? (i := 1047) (by decide +kernel)⟩
theorem lw_p54 : lw_okq (⟨"KeyTreesModel", "happens", "(I)V"⟩, 19) := ⟨⟨by decide +kernel, by decide +kernel⟩, List.mem_of_getElem? (i := 735) (by decide +kernel), List.mem_of_getElem? (i := 1058) (by decide +kernel), List.mem_of_getElem? (i := 1059) (by decide +kernel)⟩
theorem lw_p55 : lw_okq (⟨"KeyTreesModel", "whyNot", "(IIII)I"⟩, 19) := ⟨⟨by decide +kernel, by decide +kernel⟩, List.mem_of_getElem? (i := 735) (by decide +kernel), List.mem_of_getElem? (i := 1094) (by decide +kernel), List.mem_of_getElem? (i := 1095) (by decide +kernel)⟩
def lw_privs_4 : List (MethodName × Nat) := [(⟨"KeyTreesModel", "opensAll", "(I)V"⟩, 19), (⟨"KeyTreesModel", "letters", "()I"⟩, 19), (⟨"KeyTreesModel", "goesThrough", "(Z)Z"⟩, 19), (⟨"KeyTreesModel", "here", "()I"⟩, 19), (⟨"KeyTreesModel", "event", "()I"⟩, 19), (⟨"KeyTreesModel", "does", "(I)Z"⟩, 19), (⟨"KeyTreesModel", "happens", "(I)V"⟩, 19), (⟨"KeyTreesModel", "whyNot", "(IIII)I"⟩, 19)]
theorem lw_r4 : ∀ q ∈ lw_privs_4, lw_okq q := List.forall_mem_cons.mpr ⟨lw_p48, List.forall_mem_cons.mpr ⟨lw_p49, List.forall_mem_cons.mpr ⟨lw_p50, List.forall_mem_cons.mpr ⟨lw_p51, List.forall_mem_cons.mpr ⟨lw_p52, List.forall_mem_cons.mpr ⟨lw_p53, List.forall_mem_cons.mpr ⟨lw_p54, List.forall_mem_cons.mpr ⟨lw_p55, fun _ h => absurd h List.not_mem_nil⟩⟩⟩⟩⟩⟩⟩⟩
def lw_privs : List (MethodName × Nat) := lw_privs_1 ++ (lw_privs_2 ++ (lw_privs_3 ++ (lw_privs_4)))
def lw_tbl : List Cond := k2_sels lw_privs ++ tables_1
theorem lw_privs_ok : ∀ q ∈ lw_privs, lw_okq q := by
  show ∀ q ∈ lw_privs_1 ++ (lw_privs_2 ++ (lw_privs_3 ++ (lw_privs_4))), lw_okq q
  exact List.forall_mem_append.mpr ⟨lw_r1, List.forall_mem_append.mpr ⟨lw_r2, List.forall_mem_append.mpr ⟨lw_r3, lw_r4⟩⟩⟩
end
section
/-! ===== BEGIN words of one list among another's, by their places ===== -/
theorem goodIn_r {big : List Cond} (ws : List Cond) (ps : List Nat) (hp : ws = ps.filterMap (fun i => big[i]?)) (h : ws.all goodWord = true) : GoodIn big ws := by
  intro w hw
  have h1 := List.all_eq_true.mp h w hw
  rw [hp] at hw
  obtain ⟨i, -, hi⟩ := List.mem_filterMap.mp hw
  have hm : w ∈ big := by first | exact List.mem_of_getElem? hi | exact List.getElem?_mem hi
  exact ⟨hm, good_of_word h1⟩
theorem goodIn_app {big a b : List Cond} (ha : GoodIn big a) (hb : GoodIn big b) : GoodIn big (a ++ b) := fun w h => (List.mem_append.mp h).elim (ha w) (hb w)
theorem goodIn_ca {big a b : List Cond} {c : Cond} (ha : GoodIn big (c :: a)) (hb : GoodIn big b) : GoodIn big (c :: (a ++ b)) := fun w h => (List.mem_cons.mp h).elim (fun e => ha w (List.mem_cons.mpr (Or.inl e))) (fun h => (List.mem_append.mp h).elim (fun h => ha w (List.mem_cons.mpr (Or.inr h))) (hb w))
theorem goodIn_sub {big ws : List Cond} (hm : ∀ w ∈ ws, w ∈ big) (h : ws.all goodWord = true) : GoodIn big ws := fun w hw => ⟨hm w hw, good_of_word (List.all_eq_true.mp h w hw)⟩
/-! ===== END ===== -/

/-! ===== BEGIN printed: names, fields, word lists, decode rows ===== -/
def RX0 : String := "KeyTrees$Book"
def TX0 : u_T := fun k => match k with
  | 0 => ("KeyTrees$Book", "seats", "LKeyTrees$Seats;", true)
  | 1 => ("KeyTrees$Book", "keys", "LKeyTrees$Keys;", true)
  | 2 => ("KeyTrees$Book", "letters", "LKeyTrees$Letters;", true)
  | 3 => ("KeyTrees$Book", "comers", "I", false)
  | 4 => ("KeyTrees$Book", "leavers", "I", false)
  | 5 => ("KeyTrees$Book", "sleepers", "I", false)
  | 6 => ("KeyTrees$Book", "batches", "I", false)
  | 7 => ("KeyTrees$Book", "draw", "I", false)
  | 8 => ("KeyTrees$Book", "cameIn", "[I", true)
  | 9 => ("KeyTrees$Book", "leftIn", "[I", true)
  | _ => ("KeyTrees$Book", "unreadFrom", "[I", true)
def tyX0 : Nat → FieldType := fun k => match k with
  | 0 => .object "KeyTrees$Seats"
  | 1 => .object "KeyTrees$Keys"
  | 2 => .object "KeyTrees$Letters"
  | 3 => .int
  | 4 => .int
  | 5 => .int
  | 6 => .int
  | 7 => .int
  | 8 => .array .int
  | 9 => .array .int
  | _ => .array .int
abbrev wsX00 : List Cond := u_ws RX0 TX0 11
theorem nmX0 : ∀ a, a < 11 → ∀ b, b < 11 → a ≠ b → (TX0 a).2.1 ≠ (TX0 b).2.1 := by decide +kernel
theorem tyX0_ok : ∀ k, k < 11 → parseFieldDescriptor (TX0 k).2.2.1 = some (tyX0 k) := by decide +kernel
abbrev cX0_init : ByteArray := prog_2_method_1_code
def yX0_init : MethodName := ⟨RX0, "<init>", "()V"⟩
abbrev cX0_take : ByteArray := prog_2_method_2_code
def yX0_take : MethodName := ⟨RX0, "take", "(LKeyTrees$Book;)V"⟩
abbrev cX0_beginAnew : ByteArray := prog_2_method_3_code
def yX0_beginAnew : MethodName := ⟨RX0, "beginAnew", "()V"⟩
abbrev cX0_groupKey : ByteArray := prog_2_method_4_code
def yX0_groupKey : MethodName := ⟨RX0, "groupKey", "()I"⟩
abbrev cX0_unread : ByteArray := prog_2_method_5_code
def yX0_unread : MethodName := ⟨RX0, "unread", "(I)I"⟩
abbrev cX0_mayCome : ByteArray := prog_2_method_6_code
def yX0_mayCome : MethodName := ⟨RX0, "mayCome", "(I)Z"⟩
abbrev cX0_mayLeave : ByteArray := prog_2_method_7_code
def yX0_mayLeave : MethodName := ⟨RX0, "mayLeave", "(I)Z"⟩
abbrev cX0_isAwake : ByteArray := prog_2_method_8_code
def yX0_isAwake : MethodName := ⟨RX0, "isAwake", "(I)Z"⟩
abbrev cX0_isAsleep : ByteArray := prog_2_method_9_code
def yX0_isAsleep : MethodName := ⟨RX0, "isAsleep", "(I)Z"⟩
abbrev cX0_batchRefusal : ByteArray := prog_2_method_10_code
def yX0_batchRefusal : MethodName := ⟨RX0, "batchRefusal", "()I"⟩
abbrev cX0_mendRefusal : ByteArray := prog_2_method_11_code
def yX0_mendRefusal : MethodName := ⟨RX0, "mendRefusal", "(I)I"⟩
abbrev cX0_fullRefusal : ByteArray := prog_2_method_12_code
def yX0_fullRefusal : MethodName := ⟨RX0, "fullRefusal", "()I"⟩
abbrev cX0_holdsAllAbove : ByteArray := prog_2_method_13_code
def yX0_holdsAllAbove : MethodName := ⟨RX0, "holdsAllAbove", "(I)Z"⟩
abbrev cX0_addComer : ByteArray := prog_2_method_14_code
def yX0_addComer : MethodName := ⟨RX0, "addComer", "(I)V"⟩
abbrev cX0_addLeaver : ByteArray := prog_2_method_15_code
def yX0_addLeaver : MethodName := ⟨RX0, "addLeaver", "(I)V"⟩
abbrev cX0_tryCome : ByteArray := prog_2_method_16_code
def yX0_tryCome : MethodName := ⟨RX0, "tryCome", "(I)Z"⟩
abbrev cX0_tryLeave : ByteArray := prog_2_method_17_code
def yX0_tryLeave : MethodName := ⟨RX0, "tryLeave", "(I)Z"⟩
abbrev cX0_tryBatch : ByteArray := prog_2_method_18_code
def yX0_tryBatch : MethodName := ⟨RX0, "tryBatch", "()Z"⟩
abbrev cX0_changeAll : ByteArray := prog_2_method_19_code
def yX0_changeAll : MethodName := ⟨RX0, "changeAll", "()I"⟩
abbrev cX0_tellChanged : ByteArray := prog_2_method_20_code
def yX0_tellChanged : MethodName := ⟨RX0, "tellChanged", "(I)V"⟩
abbrev cX0_tell : ByteArray := prog_2_method_21_code
def yX0_tell : MethodName := ⟨RX0, "tell", "(II)V"⟩
abbrev cX0_readByAll : ByteArray := prog_2_method_22_code
def yX0_readByAll : MethodName := ⟨RX0, "readByAll", "()V"⟩
abbrev cX0_readUnread : ByteArray := prog_2_method_23_code
def yX0_readUnread : MethodName := ⟨RX0, "readUnread", "(I)I"⟩
abbrev cX0_fallAsleep : ByteArray := prog_2_method_24_code
def yX0_fallAsleep : MethodName := ⟨RX0, "fallAsleep", "(I)I"⟩
abbrev cX0_wakeUp : ByteArray := prog_2_method_25_code
def yX0_wakeUp : MethodName := ⟨RX0, "wakeUp", "(I)I"⟩
abbrev cX0_loseLetters : ByteArray := prog_2_method_26_code
def yX0_loseLetters : MethodName := ⟨RX0, "loseLetters", "(II)I"⟩
abbrev cX0_mendKeys : ByteArray := prog_2_method_27_code
def yX0_mendKeys : MethodName := ⟨RX0, "mendKeys", "(I)I"⟩
abbrev cX0_whyShut : ByteArray := prog_2_method_28_code
def yX0_whyShut : MethodName := ⟨RX0, "whyShut", "(II)I"⟩
abbrev cX0_lettersNeeded : ByteArray := prog_2_method_29_code
def yX0_lettersNeeded : MethodName := ⟨RX0, "lettersNeeded", "(I)I"⟩
def RX1 : String := "KeyTrees$Keys"
def TX1 : u_T := fun k => match k with
  | 0 => ("KeyTrees$Keys", "made", "I", false)
  | 1 => ("KeyTrees$Keys", "nodes", "[I", true)
  | 2 => ("KeyTrees$Keys", "batches", "[I", true)
  | 3 => ("KeyTrees$Keys", "holders", "[I", true)
  | _ => ("KeyTrees$Keys", "ofNode", "[I", true)
def tyX1 : Nat → FieldType := fun k => match k with
  | 0 => .int
  | 1 => .array .int
  | 2 => .array .int
  | 3 => .array .int
  | _ => .array .int
abbrev wsX10 : List Cond := u_ws RX1 TX1 5
theorem nmX1 : ∀ a, a < 5 → ∀ b, b < 5 → a ≠ b → (TX1 a).2.1 ≠ (TX1 b).2.1 := by decide +kernel
theorem tyX1_ok : ∀ k, k < 5 → parseFieldDescriptor (TX1 k).2.2.1 = some (tyX1 k) := by decide +kernel
abbrev cX1_init : ByteArray := prog_3_method_1_code
def yX1_init : MethodName := ⟨RX1, "<init>", "()V"⟩
abbrev cX1_take : ByteArray := prog_3_method_2_code
def yX1_take : MethodName := ⟨RX1, "take", "(LKeyTrees$Keys;)V"⟩
abbrev cX1_clear : ByteArray := prog_3_method_3_code
def yX1_clear : MethodName := ⟨RX1, "clear", "()V"⟩
abbrev cX1_known : ByteArray := prog_3_method_4_code
def yX1_known : MethodName := ⟨RX1, "known", "(I)Z"⟩
abbrev cX1_renew : ByteArray := prog_3_method_5_code
def yX1_renew : MethodName := ⟨RX1, "renew", "(LKeyTrees$Seats;II)V"⟩
abbrev cX1_add : ByteArray := prog_3_method_6_code
def yX1_add : MethodName := ⟨RX1, "add", "(II)I"⟩
abbrev cX1_give : ByteArray := prog_3_method_7_code
def yX1_give : MethodName := ⟨RX1, "give", "(II)V"⟩
abbrev cX1_nodeOf : ByteArray := prog_3_method_8_code
def yX1_nodeOf : MethodName := ⟨RX1, "nodeOf", "(I)I"⟩
abbrev cX1_batchOf : ByteArray := prog_3_method_9_code
def yX1_batchOf : MethodName := ⟨RX1, "batchOf", "(I)I"⟩
abbrev cX1_holdersOf : ByteArray := prog_3_method_10_code
def yX1_holdersOf : MethodName := ⟨RX1, "holdersOf", "(I)I"⟩
abbrev cX1_held : ByteArray := prog_3_method_11_code
def yX1_held : MethodName := ⟨RX1, "held", "(II)Z"⟩
abbrev cX1_heldBy : ByteArray := prog_3_method_12_code
def yX1_heldBy : MethodName := ⟨RX1, "heldBy", "(I)I"⟩
def RX2 : String := "KeyTrees$Letters"
def TX2 : u_T := fun k => match k with
  | 0 => ("KeyTrees$Letters", "written", "I", false)
  | 1 => ("KeyTrees$Letters", "inside", "[I", true)
  | 2 => ("KeyTrees$Letters", "under", "[I", true)
  | _ => ("KeyTrees$Letters", "batches", "[I", true)
def tyX2 : Nat → FieldType := fun k => match k with
  | 0 => .int
  | 1 => .array .int
  | 2 => .array .int
  | _ => .array .int
abbrev wsX20 : List Cond := u_ws RX2 TX2 4
theorem nmX2 : ∀ a, a < 4 → ∀ b, b < 4 → a ≠ b → (TX2 a).2.1 ≠ (TX2 b).2.1 := by decide +kernel
theorem tyX2_ok : ∀ k, k < 4 → parseFieldDescriptor (TX2 k).2.2.1 = some (tyX2 k) := by decide +kernel
abbrev cX2_init : ByteArray := prog_4_method_1_code
def yX2_init : MethodName := ⟨RX2, "<init>", "()V"⟩
abbrev cX2_take : ByteArray := prog_4_method_2_code
def yX2_take : MethodName := ⟨RX2, "take", "(LKeyTrees$Letters;)V"⟩
abbrev cX2_known : ByteArray := prog_4_method_3_code
def yX2_known : MethodName := ⟨RX2, "known", "(I)Z"⟩
abbrev cX2_add : ByteArray := prog_4_method_4_code
def yX2_add : MethodName := ⟨RX2, "add", "(III)V"⟩
def RX3 : String := "KeyTrees$Past"
def TX3 : u_T := fun k => match k with
  | 0 => ("KeyTrees$Past", "books", "[LKeyTrees$Book;", true)
  | 1 => ("KeyTrees$Past", "known", "I", false)
  | _ => ("KeyTrees$Past", "next", "I", false)
def tyX3 : Nat → FieldType := fun k => match k with
  | 0 => .array (.object "KeyTrees$Book")
  | 1 => .int
  | _ => .int
abbrev wsX30 : List Cond := u_ws RX3 TX3 3
theorem nmX3 : ∀ a, a < 3 → ∀ b, b < 3 → a ≠ b → (TX3 a).2.1 ≠ (TX3 b).2.1 := by decide +kernel
theorem tyX3_ok : ∀ k, k < 3 → parseFieldDescriptor (TX3 k).2.2.1 = some (tyX3 k) := by decide +kernel
abbrev cX3_init : ByteArray := prog_5_method_1_code
def yX3_init : MethodName := ⟨RX3, "<init>", "()V"⟩
abbrev cX3_take : ByteArray := prog_5_method_2_code
def yX3_take : MethodName := ⟨RX3, "take", "(LKeyTrees$Past;)V"⟩
abbrev cX3_keep : ByteArray := prog_5_method_3_code
def yX3_keep : MethodName := ⟨RX3, "keep", "(LKeyTrees$Book;)V"⟩
abbrev cX3_goBack : ByteArray := prog_5_method_4_code
def yX3_goBack : MethodName := ⟨RX3, "goBack", "(LKeyTrees$Book;)V"⟩
def RX4 : String := "KeyTrees$Ring"
def TX4 : u_T := fun k => match k with
  | 0 => ("KeyTrees$Ring", "opened", "[Z", true)
  | _ => ("KeyTrees$Ring", "size", "I", false)
def tyX4 : Nat → FieldType := fun k => match k with
  | 0 => .array .boolean
  | _ => .int
abbrev wsX40 : List Cond := u_ws RX4 TX4 2
theorem nmX4 : ∀ a, a < 2 → ∀ b, b < 2 → a ≠ b → (TX4 a).2.1 ≠ (TX4 b).2.1 := by decide +kernel
theorem tyX4_ok : ∀ k, k < 2 → parseFieldDescriptor (TX4 k).2.2.1 = some (tyX4 k) := by decide +kernel
abbrev cX4_init : ByteArray := prog_6_method_1_code
def yX4_init : MethodName := ⟨RX4, "<init>", "()V"⟩
abbrev cX4_take : ByteArray := prog_6_method_2_code
def yX4_take : MethodName := ⟨RX4, "take", "(LKeyTrees$Keys;I)V"⟩
abbrev cX4_has : ByteArray := prog_6_method_3_code
def yX4_has : MethodName := ⟨RX4, "has", "(I)Z"⟩
abbrev cX4_lacks : ByteArray := prog_6_method_4_code
def yX4_lacks : MethodName := ⟨RX4, "lacks", "(I)Z"⟩
abbrev cX4_open : ByteArray := prog_6_method_5_code
def yX4_open : MethodName := ⟨RX4, "open", "(LKeyTrees$Letters;I)Z"⟩
abbrev cX4_openAll : ByteArray := prog_6_method_6_code
def yX4_openAll : MethodName := ⟨RX4, "openAll", "(LKeyTrees$Letters;)V"⟩
def RX5 : String := "KeyTrees$Seats"
def TX5 : u_T := fun k => match k with
  | 0 => ("KeyTrees$Seats", "leafOf", "[I", true)
  | _ => ("KeyTrees$Seats", "sitters", "[I", true)
def tyX5 : Nat → FieldType := fun k => match k with
  | 0 => .array .int
  | _ => .array .int
abbrev wsX50 : List Cond := u_ws RX5 TX5 2
theorem nmX5 : ∀ a, a < 2 → ∀ b, b < 2 → a ≠ b → (TX5 a).2.1 ≠ (TX5 b).2.1 := by decide +kernel
theorem tyX5_ok : ∀ k, k < 2 → parseFieldDescriptor (TX5 k).2.2.1 = some (tyX5 k) := by decide +kernel
abbrev cX5_init : ByteArray := prog_7_method_1_code
def yX5_init : MethodName := ⟨RX5, "<init>", "()V"⟩
abbrev cX5_take : ByteArray := prog_7_method_2_code
def yX5_take : MethodName := ⟨RX5, "take", "(LKeyTrees$Seats;)V"⟩
abbrev cX5_clear : ByteArray := prog_7_method_3_code
def yX5_clear : MethodName := ⟨RX5, "clear", "()V"⟩
abbrev cX5_all : ByteArray := prog_7_method_4_code
def yX5_all : MethodName := ⟨RX5, "all", "()I"⟩
abbrev cX5_sits : ByteArray := prog_7_method_5_code
def yX5_sits : MethodName := ⟨RX5, "sits", "(I)Z"⟩
abbrev cX5_live : ByteArray := prog_7_method_6_code
def yX5_live : MethodName := ⟨RX5, "live", "(I)Z"⟩
abbrev cX5_move : ByteArray := prog_7_method_7_code
def yX5_move : MethodName := ⟨RX5, "move", "(II)I"⟩
abbrev cX5_lettersFor : ByteArray := prog_7_method_8_code
def yX5_lettersFor : MethodName := ⟨RX5, "lettersFor", "(I)I"⟩
abbrev cX5_sit : ByteArray := prog_7_method_9_code
def yX5_sit : MethodName := ⟨RX5, "sit", "(II)V"⟩
abbrev cX5_stand : ByteArray := prog_7_method_10_code
def yX5_stand : MethodName := ⟨RX5, "stand", "(I)V"⟩
abbrev cX5_emptiestLeaf : ByteArray := prog_7_method_11_code
def yX5_emptiestLeaf : MethodName := ⟨RX5, "emptiestLeaf", "()I"⟩
abbrev cX5_pathFrom : ByteArray := prog_7_method_12_code
def yX5_pathFrom : MethodName := ⟨RX5, "pathFrom", "(I)I"⟩
def RX6 : String := "KeyTrees$Sheet"
def TX6 : u_T := fun k => match k with
  | 0 => ("KeyTrees$Sheet", "row", "[J", true)
  | 1 => ("KeyTrees$Sheet", "lane", "I", false)
  | _ => ("KeyTrees$Sheet", "size", "I", false)
def tyX6 : Nat → FieldType := fun k => match k with
  | 0 => .array .long
  | 1 => .int
  | _ => .int
abbrev wsX60 : List Cond := u_ws RX6 TX6 3
theorem nmX6 : ∀ a, a < 3 → ∀ b, b < 3 → a ≠ b → (TX6 a).2.1 ≠ (TX6 b).2.1 := by decide +kernel
theorem tyX6_ok : ∀ k, k < 3 → parseFieldDescriptor (TX6 k).2.2.1 = some (tyX6 k) := by decide +kernel
abbrev cX6_init : ByteArray := prog_8_method_1_code
def yX6_init : MethodName := ⟨RX6, "<init>", "()V"⟩
abbrev cX6_renew : ByteArray := prog_8_method_2_code
def yX6_renew : MethodName := ⟨RX6, "renew", "(II)V"⟩
abbrev cX6_refusal : ByteArray := prog_8_method_3_code
def yX6_refusal : MethodName := ⟨RX6, "refusal", "(III)I"⟩
abbrev cX6_lacks : ByteArray := prog_8_method_4_code
def yX6_lacks : MethodName := ⟨RX6, "lacks", "(II)Z"⟩
abbrev cX6_put : ByteArray := prog_8_method_5_code
def yX6_put : MethodName := ⟨RX6, "put", "(IJ)V"⟩
def RX7 : String := "KeyTrees$Tape"
def TX7 : u_T := fun k => match k with
  | 0 => ("KeyTrees$Tape", "signs", "[C", true)
  | _ => ("KeyTrees$Tape", "size", "I", false)
def tyX7 : Nat → FieldType := fun k => match k with
  | 0 => .array .char
  | _ => .int
abbrev wsX70 : List Cond := u_ws RX7 TX7 2
theorem nmX7 : ∀ a, a < 2 → ∀ b, b < 2 → a ≠ b → (TX7 a).2.1 ≠ (TX7 b).2.1 := by decide +kernel
theorem tyX7_ok : ∀ k, k < 2 → parseFieldDescriptor (TX7 k).2.2.1 = some (tyX7 k) := by decide +kernel
abbrev cX7_init : ByteArray := prog_9_method_1_code
def yX7_init : MethodName := ⟨RX7, "<init>", "()V"⟩
abbrev cX7_add : ByteArray := prog_9_method_2_code
def yX7_add : MethodName := ⟨RX7, "add", "(C)V"⟩
abbrev cX7_fault : ByteArray := prog_9_method_3_code
def yX7_fault : MethodName := ⟨RX7, "fault", "()I"⟩
abbrev cX7_startsEvent : ByteArray := prog_9_method_4_code
def yX7_startsEvent : MethodName := ⟨RX7, "startsEvent", "(C)Z"⟩
abbrev cX7_figure : ByteArray := prog_9_method_5_code
def yX7_figure : MethodName := ⟨RX7, "figure", "(C)I"⟩
def RX8 : String := "KeyTrees"
def TX8 : u_T := fun k => match k with
  | 0 => ("KeyTrees", "now", "LKeyTrees$Book;", true)
  | 1 => ("KeyTrees", "past", "LKeyTrees$Past;", true)
  | 2 => ("KeyTrees", "imageBook", "LKeyTrees$Book;", true)
  | 3 => ("KeyTrees", "imagePast", "LKeyTrees$Past;", true)
  | 4 => ("KeyTrees", "imageTaken", "Z", false)
  | 5 => ("KeyTrees", "tape", "LKeyTrees$Tape;", true)
  | 6 => ("KeyTrees", "sheets", "[LKeyTrees$Sheet;", true)
  | 7 => ("KeyTrees", "plan", "LKeyTrees$Seats;", true)
  | _ => ("KeyTrees", "ring", "LKeyTrees$Ring;", true)
def tyX8 : Nat → FieldType := fun k => match k with
  | 0 => .object "KeyTrees$Book"
  | 1 => .object "KeyTrees$Past"
  | 2 => .object "KeyTrees$Book"
  | 3 => .object "KeyTrees$Past"
  | 4 => .boolean
  | 5 => .object "KeyTrees$Tape"
  | 6 => .array (.object "KeyTrees$Sheet")
  | 7 => .object "KeyTrees$Seats"
  | _ => .object "KeyTrees$Ring"
abbrev wsX80 : List Cond := u_ws RX8 TX8 9
theorem nmX8 : ∀ a, a < 9 → ∀ b, b < 9 → a ≠ b → (TX8 a).2.1 ≠ (TX8 b).2.1 := by decide +kernel
theorem tyX8_ok : ∀ k, k < 9 → parseFieldDescriptor (TX8 k).2.2.1 = some (tyX8 k) := by decide +kernel
abbrev cX8_init : ByteArray := prog_1_method_1_code
def yX8_init : MethodName := ⟨RX8, "<init>", "()V"⟩
abbrev cX8_come : ByteArray := prog_1_method_2_code
def yX8_come : MethodName := ⟨RX8, "come", "(I)I"⟩
abbrev cX8_leave : ByteArray := prog_1_method_3_code
def yX8_leave : MethodName := ⟨RX8, "leave", "(I)I"⟩
abbrev cX8_batch : ByteArray := prog_1_method_4_code
def yX8_batch : MethodName := ⟨RX8, "batch", "()I"⟩
abbrev cX8_late : ByteArray := prog_1_method_5_code
def yX8_late : MethodName := ⟨RX8, "late", "(II)I"⟩
abbrev cX8_lose : ByteArray := prog_1_method_6_code
def yX8_lose : MethodName := ⟨RX8, "lose", "(II)I"⟩
abbrev cX8_mend : ByteArray := prog_1_method_7_code
def yX8_mend : MethodName := ⟨RX8, "mend", "(I)I"⟩
abbrev cX8_begin : ByteArray := prog_1_method_8_code
def yX8_begin : MethodName := ⟨RX8, "begin", "()I"⟩
abbrev cX8_member : ByteArray := prog_1_method_9_code
def yX8_member : MethodName := ⟨RX8, "member", "(II)I"⟩
abbrev cX8_node : ByteArray := prog_1_method_10_code
def yX8_node : MethodName := ⟨RX8, "node", "(II)I"⟩
abbrev cX8_key : ByteArray := prog_1_method_11_code
def yX8_key : MethodName := ⟨RX8, "key", "(II)I"⟩
abbrev cX8_letter : ByteArray := prog_1_method_12_code
def yX8_letter : MethodName := ⟨RX8, "letter", "(II)I"⟩
abbrev cX8_count : ByteArray := prog_1_method_13_code
def yX8_count : MethodName := ⟨RX8, "count", "(I)I"⟩
abbrev cX8_why : ByteArray := prog_1_method_14_code
def yX8_why : MethodName := ⟨RX8, "why", "(II)I"⟩
abbrev cX8_opens : ByteArray := prog_1_method_15_code
def yX8_opens : MethodName := ⟨RX8, "opens", "(II)I"⟩
abbrev cX8_due : ByteArray := prog_1_method_16_code
def yX8_due : MethodName := ⟨RX8, "due", "(I)I"⟩
abbrev cX8_luck : ByteArray := prog_1_method_17_code
def yX8_luck : MethodName := ⟨RX8, "luck", "(III)I"⟩
abbrev cX8_type : ByteArray := prog_1_method_18_code
def yX8_type : MethodName := ⟨RX8, "type", "(I)I"⟩
abbrev cX8_read : ByteArray := prog_1_method_19_code
def yX8_read : MethodName := ⟨RX8, "read", "()I"⟩
abbrev cX8_drift : ByteArray := prog_1_method_20_code
def yX8_drift : MethodName := ⟨RX8, "drift", "(I)I"⟩
abbrev cX8_undo : ByteArray := prog_1_method_21_code
def yX8_undo : MethodName := ⟨RX8, "undo", "()I"⟩
abbrev cX8_seed : ByteArray := prog_1_method_22_code
def yX8_seed : MethodName := ⟨RX8, "seed", "(I)I"⟩
abbrev cX8_image : ByteArray := prog_1_method_23_code
def yX8_image : MethodName := ⟨RX8, "image", "()I"⟩
abbrev cX8_restore : ByteArray := prog_1_method_24_code
def yX8_restore : MethodName := ⟨RX8, "restore", "()I"⟩
abbrev cX8_got : ByteArray := prog_1_method_25_code
def yX8_got : MethodName := ⟨RX8, "got", "(IIIII)I"⟩
abbrev cX8_film : ByteArray := prog_1_method_26_code
def yX8_film : MethodName := ⟨RX8, "film", "(IIII)I"⟩
abbrev cX8_sheet : ByteArray := prog_1_method_27_code
def yX8_sheet : MethodName := ⟨RX8, "sheet", "(III)I"⟩
abbrev cX8_drop : ByteArray := prog_1_method_28_code
def yX8_drop : MethodName := ⟨RX8, "drop", "(I)I"⟩
abbrev cX8_item : ByteArray := prog_1_method_29_code
def yX8_item : MethodName := ⟨RX8, "item", "(IIIJ)I"⟩
abbrev cX8_copy : ByteArray := prog_1_method_30_code
def yX8_copy : MethodName := ⟨RX8, "copy", "(IIIII)I"⟩
abbrev cX8_noMember : ByteArray := prog_1_method_31_code
def yX8_noMember : MethodName := ⟨RX8, "noMember", "(I)Z"⟩
abbrev cX8_noSheet : ByteArray := prog_1_method_32_code
def yX8_noSheet : MethodName := ⟨RX8, "noSheet", "(I)Z"⟩
abbrev cX8_noLane : ByteArray := prog_1_method_33_code
def yX8_noLane : MethodName := ⟨RX8, "noLane", "(I)Z"⟩
abbrev cX8_bit : ByteArray := prog_1_method_34_code
def yX8_bit : MethodName := ⟨RX8, "bit", "(II)I"⟩
abbrev cX8_has : ByteArray := prog_1_method_35_code
def yX8_has : MethodName := ⟨RX8, "has", "(II)Z"⟩
abbrev cX8_commonOfTen : ByteArray := prog_1_method_36_code
def yX8_commonOfTen : MethodName := ⟨RX8, "commonOfTen", "(I)I"⟩
abbrev cX8_planSingles : ByteArray := prog_1_method_37_code
def yX8_planSingles : MethodName := ⟨RX8, "planSingles", "()I"⟩
abbrev cX8_doEvents : ByteArray := prog_1_method_38_code
def yX8_doEvents : MethodName := ⟨RX8, "doEvents", "()I"⟩
abbrev cX8_doEvent : ByteArray := prog_1_method_39_code
def yX8_doEvent : MethodName := ⟨RX8, "doEvent", "(CZ)Z"⟩
abbrev cX8_driftOnce : ByteArray := prog_1_method_40_code
def yX8_driftOnce : MethodName := ⟨RX8, "driftOnce", "()V"⟩
abbrev cX8_toldLetters : ByteArray := prog_1_method_41_code
def yX8_toldLetters : MethodName := ⟨RX8, "toldLetters", "(LKeyTrees$Sheet;II)Z"⟩
def RX9 : String := "KeyTreesModel"
def TX9 : u_T := fun k => match k with
  | 0 => ("KeyTreesModel", "now", "[I", true)
  | 1 => ("KeyTreesModel", "seats", "[I", true)
  | 2 => ("KeyTreesModel", "changed", "[Z", true)
  | 3 => ("KeyTreesModel", "free", "[Z", true)
  | 4 => ("KeyTreesModel", "open", "[Z", true)
  | 5 => ("KeyTreesModel", "tape", "[I", true)
  | 6 => ("KeyTreesModel", "taped", "I", false)
  | 7 => ("KeyTreesModel", "place", "I", false)
  | 8 => ("KeyTreesModel", "events", "I", false)
  | 9 => ("KeyTreesModel", "ahead", "[I", true)
  | 10 => ("KeyTreesModel", "undos", "I", false)
  | 11 => ("KeyTreesModel", "kept", "[I", true)
  | 12 => ("KeyTreesModel", "keptAhead", "[I", true)
  | 13 => ("KeyTreesModel", "keptUndos", "I", false)
  | 14 => ("KeyTreesModel", "lanes", "[I", true)
  | 15 => ("KeyTreesModel", "sizes", "[I", true)
  | 16 => ("KeyTreesModel", "items", "[J", true)
  | 17 => ("KeyTreesModel", "moved", "[J", true)
  | _ => ("KeyTreesModel", "mind", "[Z", true)
def tyX9 : Nat → FieldType := fun k => match k with
  | 0 => .array .int
  | 1 => .array .int
  | 2 => .array .boolean
  | 3 => .array .boolean
  | 4 => .array .boolean
  | 5 => .array .int
  | 6 => .int
  | 7 => .int
  | 8 => .int
  | 9 => .array .int
  | 10 => .int
  | 11 => .array .int
  | 12 => .array .int
  | 13 => .int
  | 14 => .array .int
  | 15 => .array .int
  | 16 => .array .long
  | 17 => .array .long
  | _ => .array .boolean
abbrev wsX90 : List Cond := u_ws RX9 TX9 19
theorem nmX9 : ∀ a, a < 19 → ∀ b, b < 19 → a ≠ b → (TX9 a).2.1 ≠ (TX9 b).2.1 := by decide +kernel
theorem tyX9_ok : ∀ k, k < 19 → parseFieldDescriptor (TX9 k).2.2.1 = some (tyX9 k) := by decide +kernel
abbrev cX9_in : ByteArray := prog_11_method_2_code
def yX9_in : MethodName := ⟨RX9, "in", "(JJJ)Z"⟩
abbrev cX9_init : ByteArray := prog_11_method_3_code
def yX9_init : MethodName := ⟨RX9, "<init>", "()V"⟩
abbrev cX9_has : ByteArray := prog_11_method_4_code
def yX9_has : MethodName := ⟨RX9, "has", "(II)Z"⟩
abbrev cX9_bits : ByteArray := prog_11_method_5_code
def yX9_bits : MethodName := ⟨RX9, "bits", "(I)I"⟩
abbrev cX9_isMember : ByteArray := prog_11_method_6_code
def yX9_isMember : MethodName := ⟨RX9, "isMember", "(I)Z"⟩
abbrev cX9_of : ByteArray := prog_11_method_7_code
def yX9_of : MethodName := ⟨RX9, "of", "(II)I"⟩
abbrev cX9_put : ByteArray := prog_11_method_8_code
def yX9_put : MethodName := ⟨RX9, "put", "(III)V"⟩
abbrev cX9_sits : ByteArray := prog_11_method_9_code
def yX9_sits : MethodName := ⟨RX9, "sits", "(I)Z"⟩
abbrev cX9_those : ByteArray := prog_11_method_10_code
def yX9_those : MethodName := ⟨RX9, "those", "(II)I"⟩
abbrev cX9_nodeOf : ByteArray := prog_11_method_11_code
def yX9_nodeOf : MethodName := ⟨RX9, "nodeOf", "(I)I"⟩
abbrev cX9_batchOf : ByteArray := prog_11_method_12_code
def yX9_batchOf : MethodName := ⟨RX9, "batchOf", "(I)I"⟩
abbrev cX9_holds : ByteArray := prog_11_method_13_code
def yX9_holds : MethodName := ⟨RX9, "holds", "(II)Z"⟩
abbrev cX9_inOf : ByteArray := prog_11_method_14_code
def yX9_inOf : MethodName := ⟨RX9, "inOf", "(I)I"⟩
abbrev cX9_underOf : ByteArray := prog_11_method_15_code
def yX9_underOf : MethodName := ⟨RX9, "underOf", "(I)I"⟩
abbrev cX9_batchOfLetter : ByteArray := prog_11_method_16_code
def yX9_batchOfLetter : MethodName := ⟨RX9, "batchOfLetter", "(I)I"⟩
abbrev cX9_isBeneath : ByteArray := prog_11_method_17_code
def yX9_isBeneath : MethodName := ⟨RX9, "isBeneath", "(II)Z"⟩
abbrev cX9_beneath : ByteArray := prog_11_method_18_code
def yX9_beneath : MethodName := ⟨RX9, "beneath", "(I)I"⟩
abbrev cX9_keyOf : ByteArray := prog_11_method_19_code
def yX9_keyOf : MethodName := ⟨RX9, "keyOf", "(I)I"⟩
abbrev cX9_isFull : ByteArray := prog_11_method_20_code
def yX9_isFull : MethodName := ⟨RX9, "isFull", "()Z"⟩
abbrev cX9_makes : ByteArray := prog_11_method_21_code
def yX9_makes : MethodName := ⟨RX9, "makes", "(I)I"⟩
abbrev cX9_writes : ByteArray := prog_11_method_22_code
def yX9_writes : MethodName := ⟨RX9, "writes", "(III)V"⟩
abbrev cX9_takesSeats : ByteArray := prog_11_method_23_code
def yX9_takesSeats : MethodName := ⟨RX9, "takesSeats", "()V"⟩
abbrev cX9_seated : ByteArray := prog_11_method_24_code
def yX9_seated : MethodName := ⟨RX9, "seated", "(I)I"⟩
abbrev cX9_marks : ByteArray := prog_11_method_25_code
def yX9_marks : MethodName := ⟨RX9, "marks", "(I)V"⟩
abbrev cX9_leafFor : ByteArray := prog_11_method_26_code
def yX9_leafFor : MethodName := ⟨RX9, "leafFor", "()I"⟩
abbrev cX9_shifts : ByteArray := prog_11_method_27_code
def yX9_shifts : MethodName := ⟨RX9, "shifts", "(II)V"⟩
abbrev cX9_letters : ByteArray := prog_11_method_28_code
def yX9_letters : MethodName := ⟨RX9, "letters", "()I"⟩
abbrev cX9_come : ByteArray := prog_11_method_29_code
def yX9_come : MethodName := ⟨RX9, "come", "(I)I"⟩
abbrev cX9_leave : ByteArray := prog_11_method_30_code
def yX9_leave : MethodName := ⟨RX9, "leave", "(I)I"⟩
abbrev cX9_reads : ByteArray := prog_11_method_31_code
def yX9_reads : MethodName := ⟨RX9, "reads", "(I)I"⟩
abbrev cX9_readAll : ByteArray := prog_11_method_32_code
def yX9_readAll : MethodName := ⟨RX9, "readAll", "()V"⟩
abbrev cX9_refusal : ByteArray := prog_11_method_33_code
def yX9_refusal : MethodName := ⟨RX9, "refusal", "()I"⟩
abbrev cX9_batches : ByteArray := prog_11_method_34_code
def yX9_batches : MethodName := ⟨RX9, "batches", "()I"⟩
abbrev cX9_batch : ByteArray := prog_11_method_35_code
def yX9_batch : MethodName := ⟨RX9, "batch", "()I"⟩
abbrev cX9_late : ByteArray := prog_11_method_36_code
def yX9_late : MethodName := ⟨RX9, "late", "(II)I"⟩
abbrev cX9_lose : ByteArray := prog_11_method_37_code
def yX9_lose : MethodName := ⟨RX9, "lose", "(II)I"⟩
abbrev cX9_lacks : ByteArray := prog_11_method_38_code
def yX9_lacks : MethodName := ⟨RX9, "lacks", "(I)I"⟩
abbrev cX9_mendRefusal : ByteArray := prog_11_method_39_code
def yX9_mendRefusal : MethodName := ⟨RX9, "mendRefusal", "(I)I"⟩
abbrev cX9_mends : ByteArray := prog_11_method_40_code
def yX9_mends : MethodName := ⟨RX9, "mends", "(I)I"⟩
abbrev cX9_mend : ByteArray := prog_11_method_41_code
def yX9_mend : MethodName := ⟨RX9, "mend", "(I)I"⟩
abbrev cX9_begin : ByteArray := prog_11_method_42_code
def yX9_begin : MethodName := ⟨RX9, "begin", "()I"⟩
abbrev cX9_lacking : ByteArray := prog_11_method_43_code
def yX9_lacking : MethodName := ⟨RX9, "lacking", "()I"⟩
abbrev cX9_count : ByteArray := prog_11_method_44_code
def yX9_count : MethodName := ⟨RX9, "count", "(I)I"⟩
abbrev cX9_held : ByteArray := prog_11_method_45_code
def yX9_held : MethodName := ⟨RX9, "held", "(I)I"⟩
abbrev cX9_member : ByteArray := prog_11_method_46_code
def yX9_member : MethodName := ⟨RX9, "member", "(II)I"⟩
abbrev cX9_node : ByteArray := prog_11_method_47_code
def yX9_node : MethodName := ⟨RX9, "node", "(II)I"⟩
abbrev cX9_isKey : ByteArray := prog_11_method_48_code
def yX9_isKey : MethodName := ⟨RX9, "isKey", "(I)Z"⟩
abbrev cX9_isLetter : ByteArray := prog_11_method_49_code
def yX9_isLetter : MethodName := ⟨RX9, "isLetter", "(J)Z"⟩
abbrev cX9_key : ByteArray := prog_11_method_50_code
def yX9_key : MethodName := ⟨RX9, "key", "(II)I"⟩
abbrev cX9_letter : ByteArray := prog_11_method_51_code
def yX9_letter : MethodName := ⟨RX9, "letter", "(II)I"⟩
abbrev cX9_why : ByteArray := prog_11_method_52_code
def yX9_why : MethodName := ⟨RX9, "why", "(II)I"⟩
abbrev cX9_opensAll : ByteArray := prog_11_method_53_code
def yX9_opensAll : MethodName := ⟨RX9, "opensAll", "(I)V"⟩
abbrev cX9_opens : ByteArray := prog_11_method_54_code
def yX9_opens : MethodName := ⟨RX9, "opens", "(II)I"⟩
abbrev cX9_due : ByteArray := prog_11_method_55_code
def yX9_due : MethodName := ⟨RX9, "due", "(I)I"⟩
abbrev cX9_luck : ByteArray := prog_11_method_56_code
def yX9_luck : MethodName := ⟨RX9, "luck", "(III)I"⟩
abbrev cX9_type : ByteArray := prog_11_method_57_code
def yX9_type : MethodName := ⟨RX9, "type", "(I)I"⟩
abbrev cX9_here : ByteArray := prog_11_method_58_code
def yX9_here : MethodName := ⟨RX9, "here", "()I"⟩
abbrev cX9_event : ByteArray := prog_11_method_59_code
def yX9_event : MethodName := ⟨RX9, "event", "()I"⟩
abbrev cX9_does : ByteArray := prog_11_method_60_code
def yX9_does : MethodName := ⟨RX9, "does", "(I)Z"⟩
abbrev cX9_goesThrough : ByteArray := prog_11_method_61_code
def yX9_goesThrough : MethodName := ⟨RX9, "goesThrough", "(Z)Z"⟩
abbrev cX9_read : ByteArray := prog_11_method_62_code
def yX9_read : MethodName := ⟨RX9, "read", "()I"⟩
abbrev cX9_happens : ByteArray := prog_11_method_63_code
def yX9_happens : MethodName := ⟨RX9, "happens", "(I)V"⟩
abbrev cX9_drift : ByteArray := prog_11_method_64_code
def yX9_drift : MethodName := ⟨RX9, "drift", "(I)I"⟩
abbrev cX9_seed : ByteArray := prog_11_method_65_code
def yX9_seed : MethodName := ⟨RX9, "seed", "(I)I"⟩
abbrev cX9_notes : ByteArray := prog_11_method_66_code
def yX9_notes : MethodName := ⟨RX9, "notes", "()V"⟩
abbrev cX9_undo : ByteArray := prog_11_method_67_code
def yX9_undo : MethodName := ⟨RX9, "undo", "()I"⟩
abbrev cX9_image : ByteArray := prog_11_method_68_code
def yX9_image : MethodName := ⟨RX9, "image", "()I"⟩
abbrev cX9_restore : ByteArray := prog_11_method_69_code
def yX9_restore : MethodName := ⟨RX9, "restore", "()I"⟩
abbrev cX9_isSheet : ByteArray := prog_11_method_70_code
def yX9_isSheet : MethodName := ⟨RX9, "isSheet", "(I)Z"⟩
abbrev cX9_cut : ByteArray := prog_11_method_71_code
def yX9_cut : MethodName := ⟨RX9, "cut", "(JI)J"⟩
abbrev cX9_sheet : ByteArray := prog_11_method_72_code
def yX9_sheet : MethodName := ⟨RX9, "sheet", "(III)I"⟩
abbrev cX9_drop : ByteArray := prog_11_method_73_code
def yX9_drop : MethodName := ⟨RX9, "drop", "(I)I"⟩
abbrev cX9_whyNot : ByteArray := prog_11_method_74_code
def yX9_whyNot : MethodName := ⟨RX9, "whyNot", "(IIII)I"⟩
abbrev cX9_item : ByteArray := prog_11_method_75_code
def yX9_item : MethodName := ⟨RX9, "item", "(IIIJ)I"⟩
abbrev cX9_copy : ByteArray := prog_11_method_76_code
def yX9_copy : MethodName := ⟨RX9, "copy", "(IIIII)I"⟩
abbrev cX9_got : ByteArray := prog_11_method_77_code
def yX9_got : MethodName := ⟨RX9, "got", "(IIIII)I"⟩
abbrev cX9_film : ByteArray := prog_11_method_78_code
def yX9_film : MethodName := ⟨RX9, "film", "(IIII)I"⟩
def RJ6 : String := "java/lang/Integer"
def TJ6 : u_T := fun k => match k with
  | _ => ("", "", "", false)
def tyJ6 : Nat → FieldType := fun k => match k with
  | _ => .int
abbrev wsJ60 : List Cond := u_ws RJ6 TJ6 0
theorem nmJ6 : ∀ a, a < 0 → ∀ b, b < 0 → a ≠ b → (TJ6 a).2.1 ≠ (TJ6 b).2.1 := by decide +kernel
theorem tyJ6_ok : ∀ k, k < 0 → parseFieldDescriptor (TJ6 k).2.2.1 = some (tyJ6 k) := by decide +kernel
abbrev cJ6_numberOfTrailingZeros_0f7a4 : ByteArray := prog_12_method_48_code
def yJ6_numberOfTrailingZeros_0f7a4 : MethodName := ⟨RJ6, "numberOfTrailingZeros", "(I)I"⟩
abbrev cJ6_bitCount_0f7a4 : ByteArray := prog_12_method_49_code
def yJ6_bitCount_0f7a4 : MethodName := ⟨RJ6, "bitCount", "(I)I"⟩
def RJ9 : String := "java/lang/Math"
def TJ9 : u_T := fun k => match k with
  | _ => ("", "", "", false)
def tyJ9 : Nat → FieldType := fun k => match k with
  | _ => .int
abbrev wsJ90 : List Cond := u_ws RJ9 TJ9 0
theorem nmJ9 : ∀ a, a < 0 → ∀ b, b < 0 → a ≠ b → (TJ9 a).2.1 ≠ (TJ9 b).2.1 := by decide +kernel
theorem tyJ9_ok : ∀ k, k < 0 → parseFieldDescriptor (TJ9 k).2.2.1 = some (tyJ9 k) := by decide +kernel
abbrev cJ9_min_7cf53 : ByteArray := prog_13_method_69_code
def yJ9_min_7cf53 : MethodName := ⟨RJ9, "min", "(II)I"⟩
def RJ10 : String := "java/lang/System"
def TJ10 : u_T := fun k => match k with
  | _ => ("", "", "", false)
def tyJ10 : Nat → FieldType := fun k => match k with
  | _ => .int
abbrev wsJ100 : List Cond := u_ws RJ10 TJ10 0
theorem nmJ10 : ∀ a, a < 0 → ∀ b, b < 0 → a ≠ b → (TJ10 a).2.1 ≠ (TJ10 b).2.1 := by decide +kernel
theorem tyJ10_ok : ∀ k, k < 0 → parseFieldDescriptor (TJ10 k).2.2.1 = some (tyJ10 k) := by decide +kernel
def RJ7 : String := "java/util/Arrays"
def TJ7 : u_T := fun k => match k with
  | _ => ("", "", "", false)
def tyJ7 : Nat → FieldType := fun k => match k with
  | _ => .int
abbrev wsJ70 : List Cond := u_ws RJ7 TJ7 0
theorem nmJ7 : ∀ a, a < 0 → ∀ b, b < 0 → a ≠ b → (TJ7 a).2.1 ≠ (TJ7 b).2.1 := by decide +kernel
theorem tyJ7_ok : ∀ k, k < 0 → parseFieldDescriptor (TJ7 k).2.2.1 = some (tyJ7 k) := by decide +kernel
abbrev cJ7_fill_d0a16 : ByteArray := prog_15_method_101_code
def yJ7_fill_d0a16 : MethodName := ⟨RJ7, "fill", "([JJ)V"⟩
abbrev cJ7_fill_53178 : ByteArray := prog_15_method_103_code
def yJ7_fill_53178 : MethodName := ⟨RJ7, "fill", "([II)V"⟩
def RL : String := "KeyTreesLaw"
abbrev cL_law : ByteArray := code
def yL_law : MethodName := ⟨RL, "law", "([I)Z"⟩
abbrev vwCl : List vw_C := [(RX0, TX0, 11), (RX1, TX1, 5), (RX2, TX2, 4), (RX3, TX3, 3), (RX4, TX4, 2), (RX5, TX5, 2), (RX6, TX6, 3), (RX7, TX7, 2), (RX8, TX8, 9), (RX9, TX9, 19)]
end
section
/-- the tables' words that stay true wherever a call leads -/
def zT : List Cond := lw_tbl.filter goodWord
theorem zT_tb {w : Cond} {i : Nat} (h : tables_1[i]? = some w) (g : goodWord w = true) : w ∈ zT := List.mem_filter.mpr ⟨List.mem_append_right _ (List.mem_of_getElem? h), g⟩
theorem zT_pr {w : Cond} {i : Nat} (h : (k2_sels lw_privs)[i]? = some w) (g : goodWord w = true) : w ∈ zT := List.mem_filter.mpr ⟨List.mem_append_left _ (List.mem_of_getElem? h), g⟩
theorem zT_good : ∀ w ∈ zT, (w.onTables && w.keeps) = true ∨ ∃ ty, w = .arrayClass ty := fun w h => good_of_word (List.mem_filter.mp h).2
theorem zT_lw {args : Array Value} {s : State} (h : ∀ w ∈ lw_tbl, w.before args s = true) : ∀ w ∈ zT, w.before args s = true := fun w hw => h w (List.mem_filter.mp hw).1
/-- a field as an instruction names it -/
def zFl (own : String) (index ci k : Nat) : Prop := ∃ (Cn : String) (T : u_T) (N : Nat), vwCl[ci]? = some (Cn, T, N) ∧ (∀ w ∈ u_ws Cn T N, w ∈ zT) ∧ k < N ∧ Cond.fieldLink own index (T k).1 (T k).2.1 (T k).2.2.1 ∈ zT
/-- what a store wants to know of a field -/
def zFp (ci k : Nat) (fin : Bool) (ty : FieldType) : Prop := ∃ (Cn : String) (T : u_T) (N : Nat) (ty0 : Nat → FieldType), vwCl[ci]? = some (Cn, T, N) ∧ (∀ k, k < N → parseFieldDescriptor (T k).2.2.1 = some (ty0 k)) ∧ (∀ a, a < N → ∀ b, b < N → a ≠ b → (T a).2.1 ≠ (T b).2.1) ∧ (T k).2.2.2 = fin ∧ (T k).1 = Cn ∧ parseFieldDescriptor (T k).2.2.1 = some ty
/-- a method that is called: an instance's -/
def zMv (y : MethodName) (bytes : ByteArray) (maxL : Nat) (ret : Option FieldType) (n : Nat) : Prop := Cond.code y bytes maxL ret ∈ zT ∧ Cond.initialized y.cls ∈ zT ∧ Cond.instanceMethod y ∈ zT ∧ Cond.selects y.cls y y ∈ zT ∧ (y.cls ≠ "java/lang/invoke/MethodHandle" ∧ y.cls ≠ "java/lang/invoke/VarHandle" ∧ (parseMethodDescriptor y.desc).map (fun d => d.parameters.length) = some n)
/-- a static one -/
def zMs (y : MethodName) (bytes : ByteArray) (maxL : Nat) (ret : Option FieldType) (n : Nat) : Prop := Cond.code y bytes maxL ret ∈ zT ∧ Cond.initialized y.cls ∈ zT ∧ Cond.static y ∈ zT ∧ (y.cls ≠ "java/lang/invoke/MethodHandle" ∧ y.cls ≠ "java/lang/invoke/VarHandle" ∧ (parseMethodDescriptor y.desc).map (fun d => d.parameters.length) = some n)
/-- a constructor -/
def zMi (y : MethodName) (bytes : ByteArray) (maxL : Nat) (n : Nat) : Prop := Cond.code y bytes maxL none ∈ zT ∧ Cond.initialized y.cls ∈ zT ∧ Cond.instanceMethod y ∈ zT ∧ y.name = "<init>" ∧ (y.cls ≠ "java/lang/invoke/MethodHandle" ∧ y.cls ≠ "java/lang/invoke/VarHandle" ∧ (parseMethodDescriptor y.desc).map (fun d => d.parameters.length) = some n)
theorem iX0 : ∀ w ∈ wsX00, w ∈ zT := fun w h => List.mem_filter.mpr ⟨(show ∀ w ∈ wsX00, w ∈ lw_tbl by decide +kernel) w h, List.all_eq_true.mp (show wsX00.all goodWord = true by decide +kernel) w h⟩
theorem fp_X0_0 : zFp 0 0 true (.object "KeyTrees$Seats") := ⟨RX0, TX0, 11, tyX0, rfl, tyX0_ok, nmX0, by decide +kernel, by decide +kernel, by decide +kernel⟩
theorem fp_X0_1 : zFp 0 1 true (.object "KeyTrees$Keys") := ⟨RX0, TX0, 11, tyX0, rfl, tyX0_ok, nmX0, by decide +kernel, by decide +kernel, by decide +kernel⟩
theorem fp_X0_2 : zFp 0 2 true (.object "KeyTrees$Letters") := ⟨RX0, TX0, 11, tyX0, rfl, tyX0_ok, nmX0, by decide +kernel, by decide +kernel, by decide +kernel⟩
theorem fp_X0_3 : zFp 0 3 false (.int) := ⟨RX0, TX0, 11, tyX0, rfl, tyX0_ok, nmX0, by decide +kernel, by decide +kernel, by decide +kernel⟩
theorem fp_X0_4 : zFp 0 4 false (.int) := ⟨RX0, TX0, 11, tyX0, rfl, tyX0_ok, nmX0, by decide +kernel, by decide +kernel, by decide +kernel⟩
theorem fp_X0_5 : zFp 0 5 false (.int) := ⟨RX0, TX0, 11, tyX0, rfl, tyX0_ok, nmX0, by decide +kernel, by decide +kernel, by decide +kernel⟩
theorem fp_X0_6 : zFp 0 6 false (.int) := ⟨RX0, TX0, 11, tyX0, rfl, tyX0_ok, nmX0, by decide +kernel, by decide +kernel, by decide +kernel⟩
theorem fp_X0_7 : zFp 0 7 false (.int) := ⟨RX0, TX0, 11, tyX0, rfl, tyX0_ok, nmX0, by decide +kernel, by decide +kernel, by decide +kernel⟩
theorem fp_X0_8 : zFp 0 8 true (.array .int) := ⟨RX0, TX0, 11, tyX0, rfl, tyX0_ok, nmX0, by decide +kernel, by decide +kernel, by decide +kernel⟩
theorem fp_X0_9 : zFp 0 9 true (.array .int) := ⟨RX0, TX0, 11, tyX0, rfl, tyX0_ok, nmX0, by decide +kernel, by decide +kernel, by decide +kernel⟩
theorem fp_X0_10 : zFp 0 10 true (.array .int) := ⟨RX0, TX0, 11, tyX0, rfl, tyX0_ok, nmX0, by decide +kernel, by decide +kernel, by decide +kernel⟩
theorem iX1 : ∀ w ∈ wsX10, w ∈ zT := fun w h => List.mem_filter.mpr ⟨(show ∀ w ∈ wsX10, w ∈ lw_tbl by decide +kernel) w h, List.all_eq_true.mp (show wsX10.all goodWord = true by decide +kernel) w h⟩
theorem fp_X1_0 : zFp 1 0 false (.int) := ⟨RX1, TX1, 5, tyX1, rfl, tyX1_ok, nmX1, by decide +kernel, by decide +kernel, by decide +kernel⟩
theorem fp_X1_1 : zFp 1 1 true (.array .int) := ⟨RX1, TX1, 5, tyX1, rfl, tyX1_ok, nmX1, by decide +kernel, by decide +kernel, by decide +kernel⟩
theorem fp_X1_2 : zFp 1 2 true (.array .int) := ⟨RX1, TX1, 5, tyX1, rfl, tyX1_ok, nmX1, by decide +kernel, by decide +kernel, by decide +kernel⟩
theorem fp_X1_3 : zFp 1 3 true (.array .int) := ⟨RX1, TX1, 5, tyX1, rfl, tyX1_ok, nmX1, by decide +kernel, by decide +kernel, by decide +kernel⟩
theorem fp_X1_4 : zFp 1 4 true (.array .int) := ⟨RX1, TX1, 5, tyX1, rfl, tyX1_ok, nmX1, by decide +kernel, by decide +kernel, by decide +kernel⟩
theorem iX2 : ∀ w ∈ wsX20, w ∈ zT := fun w h => List.mem_filter.mpr ⟨(show ∀ w ∈ wsX20, w ∈ lw_tbl by decide +kernel) w h, List.all_eq_true.mp (show wsX20.all goodWord = true by decide +kernel) w h⟩
theorem fp_X2_0 : zFp 2 0 false (.int) := ⟨RX2, TX2, 4, tyX2, rfl, tyX2_ok, nmX2, by decide +kernel, by decide +kernel, by decide +kernel⟩
theorem fp_X2_1 : zFp 2 1 true (.array .int) := ⟨RX2, TX2, 4, tyX2, rfl, tyX2_ok, nmX2, by decide +kernel, by decide +kernel, by decide +kernel⟩
theorem fp_X2_2 : zFp 2 2 true (.array .int) := ⟨RX2, TX2, 4, tyX2, rfl, tyX2_ok, nmX2, by decide +kernel, by decide +kernel, by decide +kernel⟩
theorem fp_X2_3 : zFp 2 3 true (.array .int) := ⟨RX2, TX2, 4, tyX2, rfl, tyX2_ok, nmX2, by decide +kernel, by decide +kernel, by decide +kernel⟩
theorem iX3 : ∀ w ∈ wsX30, w ∈ zT := fun w h => List.mem_filter.mpr ⟨(show ∀ w ∈ wsX30, w ∈ lw_tbl by decide +kernel) w h, List.all_eq_true.mp (show wsX30.all goodWord = true by decide +kernel) w h⟩
theorem fp_X3_0 : zFp 3 0 true (.array (.object "KeyTrees$Book")) := ⟨RX3, TX3, 3, tyX3, rfl, tyX3_ok, nmX3, by decide +kernel, by decide +kernel, by decide +kernel⟩
theorem fp_X3_1 : zFp 3 1 false (.int) := ⟨RX3, TX3, 3, tyX3, rfl, tyX3_ok, nmX3, by decide +kernel, by decide +kernel, by decide +kernel⟩
theorem fp_X3_2 : zFp 3 2 false (.int) := ⟨RX3, TX3, 3, tyX3, rfl, tyX3_ok, nmX3, by decide +kernel, by decide +kernel, by decide +kernel⟩
theorem iX4 : ∀ w ∈ wsX40, w ∈ zT := fun w h => List.mem_filter.mpr ⟨(show ∀ w ∈ wsX40, w ∈ lw_tbl by decide +kernel) w h, List.all_eq_true.mp (show wsX40.all goodWord = true by decide +kernel) w h⟩
theorem fp_X4_0 : zFp 4 0 true (.array .boolean) := ⟨RX4, TX4, 2, tyX4, rfl, tyX4_ok, nmX4, by decide +kernel, by decide +kernel, by decide +kernel⟩
theorem fp_X4_1 : zFp 4 1 false (.int) := ⟨RX4, TX4, 2, tyX4, rfl, tyX4_ok, nmX4, by decide +kernel, by decide +kernel, by decide +kernel⟩
theorem iX5 : ∀ w ∈ wsX50, w ∈ zT := fun w h => List.mem_filter.mpr ⟨(show ∀ w ∈ wsX50, w ∈ lw_tbl by decide +kernel) w h, List.all_eq_true.mp (show wsX50.all goodWord = true by decide +kernel) w h⟩
theorem fp_X5_0 : zFp 5 0 true (.array .int) := ⟨RX5, TX5, 2, tyX5, rfl, tyX5_ok, nmX5, by decide +kernel, by decide +kernel, by decide +kernel⟩
theorem fp_X5_1 : zFp 5 1 true (.array .int) := ⟨RX5, TX5, 2, tyX5, rfl, tyX5_ok, nmX5, by decide +kernel, by decide +kernel, by decide +kernel⟩
theorem iX6 : ∀ w ∈ wsX60, w ∈ zT := fun w h => List.mem_filter.mpr ⟨(show ∀ w ∈ wsX60, w ∈ lw_tbl by decide +kernel) w h, List.all_eq_true.mp (show wsX60.all goodWord = true by decide +kernel) w h⟩
theorem fp_X6_0 : zFp 6 0 true (.array .long) := ⟨RX6, TX6, 3, tyX6, rfl, tyX6_ok, nmX6, by decide +kernel, by decide +kernel, by decide +kernel⟩
theorem fp_X6_1 : zFp 6 1 false (.int) := ⟨RX6, TX6, 3, tyX6, rfl, tyX6_ok, nmX6, by decide +kernel, by decide +kernel, by decide +kernel⟩
theorem fp_X6_2 : zFp 6 2 false (.int) := ⟨RX6, TX6, 3, tyX6, rfl, tyX6_ok, nmX6, by decide +kernel, by decide +kernel, by decide +kernel⟩
theorem iX7 : ∀ w ∈ wsX70, w ∈ zT := fun w h => List.mem_filter.mpr ⟨(show ∀ w ∈ wsX70, w ∈ lw_tbl by decide +kernel) w h, List.all_eq_true.mp (show wsX70.all goodWord = true by decide +kernel) w h⟩
theorem fp_X7_0 : zFp 7 0 true (.array .char) := ⟨RX7, TX7, 2, tyX7, rfl, tyX7_ok, nmX7, by decide +kernel, by decide +kernel, by decide +kernel⟩
theorem fp_X7_1 : zFp 7 1 false (.int) := ⟨RX7, TX7, 2, tyX7, rfl, tyX7_ok, nmX7, by decide +kernel, by decide +kernel, by decide +kernel⟩
theorem iX8 : ∀ w ∈ wsX80, w ∈ zT := fun w h => List.mem_filter.mpr ⟨(show ∀ w ∈ wsX80, w ∈ lw_tbl by decide +kernel) w h, List.all_eq_true.mp (show wsX80.all goodWord = true by decide +kernel) w h⟩
theorem fp_X8_0 : zFp 8 0 true (.object "KeyTrees$Book") := ⟨RX8, TX8, 9, tyX8, rfl, tyX8_ok, nmX8, by decide +kernel, by decide +kernel, by decide +kernel⟩
theorem fp_X8_1 : zFp 8 1 true (.object "KeyTrees$Past") := ⟨RX8, TX8, 9, tyX8, rfl, tyX8_ok, nmX8, by decide +kernel, by decide +kernel, by decide +kernel⟩
theorem fp_X8_2 : zFp 8 2 true (.object "KeyTrees$Book") := ⟨RX8, TX8, 9, tyX8, rfl, tyX8_ok, nmX8, by decide +kernel, by decide +kernel, by decide +kernel⟩
theorem fp_X8_3 : zFp 8 3 true (.object "KeyTrees$Past") := ⟨RX8, TX8, 9, tyX8, rfl, tyX8_ok, nmX8, by decide +kernel, by decide +kernel, by decide +kernel⟩
theorem fp_X8_4 : zFp 8 4 false (.boolean) := ⟨RX8, TX8, 9, tyX8, rfl, tyX8_ok, nmX8, by decide +kernel, by decide +kernel, by decide +kernel⟩
theorem fp_X8_5 : zFp 8 5 true (.object "KeyTrees$Tape") := ⟨RX8, TX8, 9, tyX8, rfl, tyX8_ok, nmX8, by decide +kernel, by decide +kernel, by decide +kernel⟩
theorem fp_X8_6 : zFp 8 6 true (.array (.object "KeyTrees$Sheet")) := ⟨RX8, TX8, 9, tyX8, rfl, tyX8_ok, nmX8, by decide +kernel, by decide +kernel, by decide +kernel⟩
theorem fp_X8_7 : zFp 8 7 true (.object "KeyTrees$Seats") := ⟨RX8, TX8, 9, tyX8, rfl, tyX8_ok, nmX8, by decide +kernel, by decide +kernel, by decide +kernel⟩
theorem fp_X8_8 : zFp 8 8 true (.object "KeyTrees$Ring") := ⟨RX8, TX8, 9, tyX8, rfl, tyX8_ok, nmX8, by decide +kernel, by decide +kernel, by decide +kernel⟩
theorem iX9 : ∀ w ∈ wsX90, w ∈ zT := fun w h => List.mem_filter.mpr ⟨(show ∀ w ∈ wsX90, w ∈ lw_tbl by decide +kernel) w h, List.all_eq_true.mp (show wsX90.all goodWord = true by decide +kernel) w h⟩
theorem fp_X9_0 : zFp 9 0 true (.array .int) := ⟨RX9, TX9, 19, tyX9, rfl, tyX9_ok, nmX9, by decide +kernel, by decide +kernel, by decide +kernel⟩
theorem fp_X9_1 : zFp 9 1 true (.array .int) := ⟨RX9, TX9, 19, tyX9, rfl, tyX9_ok, nmX9, by decide +kernel, by decide +kernel, by decide +kernel⟩
theorem fp_X9_2 : zFp 9 2 true (.array .boolean) := ⟨RX9, TX9, 19, tyX9, rfl, tyX9_ok, nmX9, by decide +kernel, by decide +kernel, by decide +kernel⟩
theorem fp_X9_3 : zFp 9 3 true (.array .boolean) := ⟨RX9, TX9, 19, tyX9, rfl, tyX9_ok, nmX9, by decide +kernel, by decide +kernel, by decide +kernel⟩
theorem fp_X9_4 : zFp 9 4 true (.array .boolean) := ⟨RX9, TX9, 19, tyX9, rfl, tyX9_ok, nmX9, by decide +kernel, by decide +kernel, by decide +kernel⟩
theorem fp_X9_5 : zFp 9 5 true (.array .int) := ⟨RX9, TX9, 19, tyX9, rfl, tyX9_ok, nmX9, by decide +kernel, by decide +kernel, by decide +kernel⟩
theorem fp_X9_6 : zFp 9 6 false (.int) := ⟨RX9, TX9, 19, tyX9, rfl, tyX9_ok, nmX9, by decide +kernel, by decide +kernel, by decide +kernel⟩
theorem fp_X9_7 : zFp 9 7 false (.int) := ⟨RX9, TX9, 19, tyX9, rfl, tyX9_ok, nmX9, by decide +kernel, by decide +kernel, by decide +kernel⟩
theorem fp_X9_8 : zFp 9 8 false (.int) := ⟨RX9, TX9, 19, tyX9, rfl, tyX9_ok, nmX9, by decide +kernel, by decide +kernel, by decide +kernel⟩
theorem fp_X9_9 : zFp 9 9 true (.array .int) := ⟨RX9, TX9, 19, tyX9, rfl, tyX9_ok, nmX9, by decide +kernel, by decide +kernel, by decide +kernel⟩
theorem fp_X9_10 : zFp 9 10 false (.int) := ⟨RX9, TX9, 19, tyX9, rfl, tyX9_ok, nmX9, by decide +kernel, by decide +kernel, by decide +kernel⟩
theorem fp_X9_11 : zFp 9 11 true (.array .int) := ⟨RX9, TX9, 19, tyX9, rfl, tyX9_ok, nmX9, by decide +kernel, by decide +kernel, by decide +kernel⟩
theorem fp_X9_12 : zFp 9 12 true (.array .int) := ⟨RX9, TX9, 19, tyX9, rfl, tyX9_ok, nmX9, by decide +kernel, by decide +kernel, by decide +kernel⟩
theorem fp_X9_13 : zFp 9 13 false (.int) := ⟨RX9, TX9, 19, tyX9, rfl, tyX9_ok, nmX9, by decide +kernel, by decide +kernel, by decide +kernel⟩
theorem fp_X9_14 : zFp 9 14 true (.array .int) := ⟨RX9, TX9, 19, tyX9, rfl, tyX9_ok, nmX9, by decide +kernel, by decide +kernel, by decide +kernel⟩
theorem fp_X9_15 : zFp 9 15 true (.array .int) := ⟨RX9, TX9, 19, tyX9, rfl, tyX9_ok, nmX9, by decide +kernel, by decide +kernel, by decide +kernel⟩
theorem fp_X9_16 : zFp 9 16 true (.array .long) := ⟨RX9, TX9, 19, tyX9, rfl, tyX9_ok, nmX9, by decide +kernel, by decide +kernel, by decide +kernel⟩
theorem fp_X9_17 : zFp 9 17 true (.array .long) := ⟨RX9, TX9, 19, tyX9, rfl, tyX9_ok, nmX9, by decide +kernel, by decide +kernel, by decide +kernel⟩
theorem fp_X9_18 : zFp 9 18 true (.array .boolean) := ⟨RX9, TX9, 19, tyX9, rfl, tyX9_ok, nmX9, by decide +kernel, by decide +kernel, by decide +kernel⟩
theorem cl_L_7 : Cond.classLink RL 7 RX8 ∈ zT := zT_tb (i := 15) (by decide +kernel) (by decide +kernel)
theorem ml_L_9 : Cond.methodLink RL 9 yX8_init ∈ zT := zT_tb (i := 17) (by decide +kernel) (by decide +kernel)
theorem ml_X8_3 : Cond.methodLink RX8 3 objectInit ∈ zT := zT_tb (i := 20) (by decide +kernel) (by decide +kernel)
theorem cl_X8_9 : Cond.classLink RX8 9 RX0 ∈ zT := zT_tb (i := 23) (by decide +kernel) (by decide +kernel)
theorem ml_X8_11 : Cond.methodLink RX8 11 yX0_init ∈ zT := zT_tb (i := 25) (by decide +kernel) (by decide +kernel)
theorem ml_X0_3 : Cond.methodLink RX0 3 objectInit ∈ zT := zT_tb (i := 28) (by decide +kernel) (by decide +kernel)
theorem cl_X0_9 : Cond.classLink RX0 9 RX5 ∈ zT := zT_tb (i := 29) (by decide +kernel) (by decide +kernel)
theorem ml_X5_3 : Cond.methodLink RX5 3 objectInit ∈ zT := zT_tb (i := 34) (by decide +kernel) (by decide +kernel)
theorem fl_X5_9 : zFl RX5 9 5 0 := ⟨RX5, TX5, 2, rfl, iX5, by decide +kernel, zT_tb (i := 35) (by decide +kernel) (by decide +kernel)⟩
theorem fl_X8_138 : zFl RX8 138 5 0 := ⟨RX5, TX5, 2, rfl, iX5, by decide +kernel, zT_tb (i := 36) (by decide +kernel) (by decide +kernel)⟩
theorem fl_X0_111 : zFl RX0 111 5 0 := ⟨RX5, TX5, 2, rfl, iX5, by decide +kernel, zT_tb (i := 37) (by decide +kernel) (by decide +kernel)⟩
theorem fl_X5_15 : zFl RX5 15 5 1 := ⟨RX5, TX5, 2, rfl, iX5, by decide +kernel, zT_tb (i := 38) (by decide +kernel) (by decide +kernel)⟩
theorem fl_X8_163 : zFl RX8 163 5 1 := ⟨RX5, TX5, 2, rfl, iX5, by decide +kernel, zT_tb (i := 39) (by decide +kernel) (by decide +kernel)⟩
theorem fl_X0_190 : zFl RX0 190 5 1 := ⟨RX5, TX5, 2, rfl, iX5, by decide +kernel, zT_tb (i := 40) (by decide +kernel) (by decide +kernel)⟩
theorem cl_X0_18 : Cond.classLink RX0 18 RX1 ∈ zT := zT_tb (i := 47) (by decide +kernel) (by decide +kernel)
theorem ml_X0_20 : Cond.methodLink RX0 20 yX1_init ∈ zT := zT_tb (i := 49) (by decide +kernel) (by decide +kernel)
theorem ml_X1_3 : Cond.methodLink RX1 3 objectInit ∈ zT := zT_tb (i := 52) (by decide +kernel) (by decide +kernel)
theorem ml_X1_24 : Cond.methodLink RX1 24 yJ7_fill_53178 ∈ zT := zT_tb (i := 53) (by decide +kernel) (by decide +kernel)
theorem fl_X1_30 : zFl RX1 30 1 0 := ⟨RX1, TX1, 5, rfl, iX1, by decide +kernel, zT_tb (i := 56) (by decide +kernel) (by decide +kernel)⟩
theorem fl_X4_15 : zFl RX4 15 1 0 := ⟨RX1, TX1, 5, rfl, iX1, by decide +kernel, zT_tb (i := 57) (by decide +kernel) (by decide +kernel)⟩
theorem fl_X8_124 : zFl RX8 124 1 0 := ⟨RX1, TX1, 5, rfl, iX1, by decide +kernel, zT_tb (i := 58) (by decide +kernel) (by decide +kernel)⟩
theorem fl_X0_108 : zFl RX0 108 1 0 := ⟨RX1, TX1, 5, rfl, iX1, by decide +kernel, zT_tb (i := 59) (by decide +kernel) (by decide +kernel)⟩
theorem fl_X1_9 : zFl RX1 9 1 1 := ⟨RX1, TX1, 5, rfl, iX1, by decide +kernel, zT_tb (i := 60) (by decide +kernel) (by decide +kernel)⟩
theorem fl_X8_169 : zFl RX8 169 1 1 := ⟨RX1, TX1, 5, rfl, iX1, by decide +kernel, zT_tb (i := 61) (by decide +kernel) (by decide +kernel)⟩
theorem fl_X1_15 : zFl RX1 15 1 2 := ⟨RX1, TX1, 5, rfl, iX1, by decide +kernel, zT_tb (i := 62) (by decide +kernel) (by decide +kernel)⟩
theorem fl_X8_172 : zFl RX8 172 1 2 := ⟨RX1, TX1, 5, rfl, iX1, by decide +kernel, zT_tb (i := 63) (by decide +kernel) (by decide +kernel)⟩
theorem fl_X1_18 : zFl RX1 18 1 3 := ⟨RX1, TX1, 5, rfl, iX1, by decide +kernel, zT_tb (i := 64) (by decide +kernel) (by decide +kernel)⟩
theorem fl_X4_24 : zFl RX4 24 1 3 := ⟨RX1, TX1, 5, rfl, iX1, by decide +kernel, zT_tb (i := 65) (by decide +kernel) (by decide +kernel)⟩
theorem fl_X8_175 : zFl RX8 175 1 3 := ⟨RX1, TX1, 5, rfl, iX1, by decide +kernel, zT_tb (i := 66) (by decide +kernel) (by decide +kernel)⟩
theorem fl_X1_21 : zFl RX1 21 1 4 := ⟨RX1, TX1, 5, rfl, iX1, by decide +kernel, zT_tb (i := 67) (by decide +kernel) (by decide +kernel)⟩
theorem fl_X0_87 : zFl RX0 87 1 4 := ⟨RX1, TX1, 5, rfl, iX1, by decide +kernel, zT_tb (i := 68) (by decide +kernel) (by decide +kernel)⟩
theorem fl_X8_160 : zFl RX8 160 1 4 := ⟨RX1, TX1, 5, rfl, iX1, by decide +kernel, zT_tb (i := 69) (by decide +kernel) (by decide +kernel)⟩
theorem cl_X0_25 : Cond.classLink RX0 25 RX2 ∈ zT := zT_tb (i := 81) (by decide +kernel) (by decide +kernel)
theorem ml_X2_3 : Cond.methodLink RX2 3 objectInit ∈ zT := zT_tb (i := 86) (by decide +kernel) (by decide +kernel)
theorem fl_X2_21 : zFl RX2 21 2 0 := ⟨RX2, TX2, 4, rfl, iX2, by decide +kernel, zT_tb (i := 87) (by decide +kernel) (by decide +kernel)⟩
theorem fl_X0_84 : zFl RX0 84 2 0 := ⟨RX2, TX2, 4, rfl, iX2, by decide +kernel, zT_tb (i := 88) (by decide +kernel) (by decide +kernel)⟩
theorem fl_X4_43 : zFl RX4 43 2 0 := ⟨RX2, TX2, 4, rfl, iX2, by decide +kernel, zT_tb (i := 89) (by decide +kernel) (by decide +kernel)⟩
theorem fl_X8_195 : zFl RX8 195 2 0 := ⟨RX2, TX2, 4, rfl, iX2, by decide +kernel, zT_tb (i := 90) (by decide +kernel) (by decide +kernel)⟩
theorem fl_X2_9 : zFl RX2 9 2 1 := ⟨RX2, TX2, 4, rfl, iX2, by decide +kernel, zT_tb (i := 91) (by decide +kernel) (by decide +kernel)⟩
theorem fl_X4_28 : zFl RX4 28 2 1 := ⟨RX2, TX2, 4, rfl, iX2, by decide +kernel, zT_tb (i := 92) (by decide +kernel) (by decide +kernel)⟩
theorem fl_X8_185 : zFl RX8 185 2 1 := ⟨RX2, TX2, 4, rfl, iX2, by decide +kernel, zT_tb (i := 93) (by decide +kernel) (by decide +kernel)⟩
theorem fl_X0_168 : zFl RX0 168 2 1 := ⟨RX2, TX2, 4, rfl, iX2, by decide +kernel, zT_tb (i := 94) (by decide +kernel) (by decide +kernel)⟩
theorem fl_X2_15 : zFl RX2 15 2 2 := ⟨RX2, TX2, 4, rfl, iX2, by decide +kernel, zT_tb (i := 95) (by decide +kernel) (by decide +kernel)⟩
theorem fl_X4_33 : zFl RX4 33 2 2 := ⟨RX2, TX2, 4, rfl, iX2, by decide +kernel, zT_tb (i := 96) (by decide +kernel) (by decide +kernel)⟩
theorem fl_X8_188 : zFl RX8 188 2 2 := ⟨RX2, TX2, 4, rfl, iX2, by decide +kernel, zT_tb (i := 97) (by decide +kernel) (by decide +kernel)⟩
theorem fl_X0_171 : zFl RX0 171 2 2 := ⟨RX2, TX2, 4, rfl, iX2, by decide +kernel, zT_tb (i := 98) (by decide +kernel) (by decide +kernel)⟩
theorem fl_X2_18 : zFl RX2 18 2 3 := ⟨RX2, TX2, 4, rfl, iX2, by decide +kernel, zT_tb (i := 99) (by decide +kernel) (by decide +kernel)⟩
theorem fl_X8_191 : zFl RX8 191 2 3 := ⟨RX2, TX2, 4, rfl, iX2, by decide +kernel, zT_tb (i := 100) (by decide +kernel) (by decide +kernel)⟩
theorem fl_X0_188 : zFl RX0 188 2 3 := ⟨RX2, TX2, 4, rfl, iX2, by decide +kernel, zT_tb (i := 101) (by decide +kernel) (by decide +kernel)⟩
theorem ml_X0_46 : Cond.methodLink RX0 46 yJ7_fill_53178 ∈ zT := zT_tb (i := 111) (by decide +kernel) (by decide +kernel)
theorem fl_X0_12 : zFl RX0 12 0 0 := ⟨RX0, TX0, 11, rfl, iX0, by decide +kernel, zT_tb (i := 112) (by decide +kernel) (by decide +kernel)⟩
theorem fl_X8_132 : zFl RX8 132 0 0 := ⟨RX0, TX0, 11, rfl, iX0, by decide +kernel, zT_tb (i := 113) (by decide +kernel) (by decide +kernel)⟩
theorem fl_X0_21 : zFl RX0 21 0 1 := ⟨RX0, TX0, 11, rfl, iX0, by decide +kernel, zT_tb (i := 114) (by decide +kernel) (by decide +kernel)⟩
theorem fl_X8_120 : zFl RX8 120 0 1 := ⟨RX0, TX0, 11, rfl, iX0, by decide +kernel, zT_tb (i := 115) (by decide +kernel) (by decide +kernel)⟩
theorem fl_X0_28 : zFl RX0 28 0 2 := ⟨RX0, TX0, 11, rfl, iX0, by decide +kernel, zT_tb (i := 116) (by decide +kernel) (by decide +kernel)⟩
theorem fl_X8_178 : zFl RX8 178 0 2 := ⟨RX0, TX0, 11, rfl, iX0, by decide +kernel, zT_tb (i := 117) (by decide +kernel) (by decide +kernel)⟩
theorem fl_X0_62 : zFl RX0 62 0 3 := ⟨RX0, TX0, 11, rfl, iX0, by decide +kernel, zT_tb (i := 118) (by decide +kernel) (by decide +kernel)⟩
theorem fl_X8_72 : zFl RX8 72 0 3 := ⟨RX0, TX0, 11, rfl, iX0, by decide +kernel, zT_tb (i := 119) (by decide +kernel) (by decide +kernel)⟩
theorem fl_X0_65 : zFl RX0 65 0 4 := ⟨RX0, TX0, 11, rfl, iX0, by decide +kernel, zT_tb (i := 120) (by decide +kernel) (by decide +kernel)⟩
theorem fl_X8_88 : zFl RX8 88 0 4 := ⟨RX0, TX0, 11, rfl, iX0, by decide +kernel, zT_tb (i := 121) (by decide +kernel) (by decide +kernel)⟩
theorem fl_X0_68 : zFl RX0 68 0 5 := ⟨RX0, TX0, 11, rfl, iX0, by decide +kernel, zT_tb (i := 122) (by decide +kernel) (by decide +kernel)⟩
theorem fl_X8_154 : zFl RX8 154 0 5 := ⟨RX0, TX0, 11, rfl, iX0, by decide +kernel, zT_tb (i := 123) (by decide +kernel) (by decide +kernel)⟩
theorem fl_X0_71 : zFl RX0 71 0 6 := ⟨RX0, TX0, 11, rfl, iX0, by decide +kernel, zT_tb (i := 124) (by decide +kernel) (by decide +kernel)⟩
theorem fl_X8_198 : zFl RX8 198 0 6 := ⟨RX0, TX0, 11, rfl, iX0, by decide +kernel, zT_tb (i := 125) (by decide +kernel) (by decide +kernel)⟩
theorem fl_X0_32 : zFl RX0 32 0 7 := ⟨RX0, TX0, 11, rfl, iX0, by decide +kernel, zT_tb (i := 126) (by decide +kernel) (by decide +kernel)⟩
theorem fl_X8_254 : zFl RX8 254 0 7 := ⟨RX0, TX0, 11, rfl, iX0, by decide +kernel, zT_tb (i := 127) (by decide +kernel) (by decide +kernel)⟩
theorem fl_X0_36 : zFl RX0 36 0 8 := ⟨RX0, TX0, 11, rfl, iX0, by decide +kernel, zT_tb (i := 128) (by decide +kernel) (by decide +kernel)⟩
theorem fl_X0_40 : zFl RX0 40 0 9 := ⟨RX0, TX0, 11, rfl, iX0, by decide +kernel, zT_tb (i := 129) (by decide +kernel) (by decide +kernel)⟩
theorem fl_X0_43 : zFl RX0 43 0 10 := ⟨RX0, TX0, 11, rfl, iX0, by decide +kernel, zT_tb (i := 130) (by decide +kernel) (by decide +kernel)⟩
theorem cl_X8_16 : Cond.classLink RX8 16 RX3 ∈ zT := zT_tb (i := 154) (by decide +kernel) (by decide +kernel)
theorem ml_X8_18 : Cond.methodLink RX8 18 yX3_init ∈ zT := zT_tb (i := 156) (by decide +kernel) (by decide +kernel)
theorem ml_X3_3 : Cond.methodLink RX3 3 objectInit ∈ zT := zT_tb (i := 159) (by decide +kernel) (by decide +kernel)
theorem cl_X3_9 : Cond.classLink RX3 9 RX0 ∈ zT := zT_tb (i := 160) (by decide +kernel) (by decide +kernel)
theorem ml_X3_17 : Cond.methodLink RX3 17 yX0_init ∈ zT := zT_tb (i := 162) (by decide +kernel) (by decide +kernel)
theorem fl_X3_11 : zFl RX3 11 3 0 := ⟨RX3, TX3, 3, rfl, iX3, by decide +kernel, zT_tb (i := 163) (by decide +kernel) (by decide +kernel)⟩
theorem fl_X3_18 : zFl RX3 18 3 1 := ⟨RX3, TX3, 3, rfl, iX3, by decide +kernel, zT_tb (i := 164) (by decide +kernel) (by decide +kernel)⟩
theorem fl_X8_200 : zFl RX8 200 3 1 := ⟨RX3, TX3, 3, rfl, iX3, by decide +kernel, zT_tb (i := 165) (by decide +kernel) (by decide +kernel)⟩
theorem fl_X3_22 : zFl RX3 22 3 2 := ⟨RX3, TX3, 3, rfl, iX3, by decide +kernel, zT_tb (i := 166) (by decide +kernel) (by decide +kernel)⟩
theorem cl_X8_29 : Cond.classLink RX8 29 RX7 ∈ zT := zT_tb (i := 174) (by decide +kernel) (by decide +kernel)
theorem ml_X7_3 : Cond.methodLink RX7 3 objectInit ∈ zT := zT_tb (i := 179) (by decide +kernel) (by decide +kernel)
theorem fl_X7_9 : zFl RX7 9 7 0 := ⟨RX7, TX7, 2, rfl, iX7, by decide +kernel, zT_tb (i := 180) (by decide +kernel) (by decide +kernel)⟩
theorem fl_X8_310 : zFl RX8 310 7 0 := ⟨RX7, TX7, 2, rfl, iX7, by decide +kernel, zT_tb (i := 181) (by decide +kernel) (by decide +kernel)⟩
theorem fl_X7_15 : zFl RX7 15 7 1 := ⟨RX7, TX7, 2, rfl, iX7, by decide +kernel, zT_tb (i := 182) (by decide +kernel) (by decide +kernel)⟩
theorem fl_X8_235 : zFl RX8 235 7 1 := ⟨RX7, TX7, 2, rfl, iX7, by decide +kernel, zT_tb (i := 183) (by decide +kernel) (by decide +kernel)⟩
theorem cl_X8_36 : Cond.classLink RX8 36 RX6 ∈ zT := zT_tb (i := 190) (by decide +kernel) (by decide +kernel)
theorem cl_X8_42 : Cond.classLink RX8 42 RX5 ∈ zT := zT_tb (i := 192) (by decide +kernel) (by decide +kernel)
theorem cl_X8_49 : Cond.classLink RX8 49 RX4 ∈ zT := zT_tb (i := 194) (by decide +kernel) (by decide +kernel)
theorem ml_X4_3 : Cond.methodLink RX4 3 objectInit ∈ zT := zT_tb (i := 199) (by decide +kernel) (by decide +kernel)
theorem fl_X4_9 : zFl RX4 9 4 0 := ⟨RX4, TX4, 2, rfl, iX4, by decide +kernel, zT_tb (i := 200) (by decide +kernel) (by decide +kernel)⟩
theorem fl_X4_21 : zFl RX4 21 4 1 := ⟨RX4, TX4, 2, rfl, iX4, by decide +kernel, zT_tb (i := 201) (by decide +kernel) (by decide +kernel)⟩
theorem ml_X6_3 : Cond.methodLink RX6 3 objectInit ∈ zT := zT_tb (i := 212) (by decide +kernel) (by decide +kernel)
theorem fl_X6_9 : zFl RX6 9 6 0 := ⟨RX6, TX6, 3, rfl, iX6, by decide +kernel, zT_tb (i := 213) (by decide +kernel) (by decide +kernel)⟩
theorem fl_X8_280 : zFl RX8 280 6 0 := ⟨RX6, TX6, 3, rfl, iX6, by decide +kernel, zT_tb (i := 214) (by decide +kernel) (by decide +kernel)⟩
theorem fl_X6_15 : zFl RX6 15 6 1 := ⟨RX6, TX6, 3, rfl, iX6, by decide +kernel, zT_tb (i := 215) (by decide +kernel) (by decide +kernel)⟩
theorem fl_X8_296 : zFl RX8 296 6 1 := ⟨RX6, TX6, 3, rfl, iX6, by decide +kernel, zT_tb (i := 216) (by decide +kernel) (by decide +kernel)⟩
theorem fl_X6_19 : zFl RX6 19 6 2 := ⟨RX6, TX6, 3, rfl, iX6, by decide +kernel, zT_tb (i := 217) (by decide +kernel) (by decide +kernel)⟩
theorem fl_X8_299 : zFl RX8 299 6 2 := ⟨RX6, TX6, 3, rfl, iX6, by decide +kernel, zT_tb (i := 218) (by decide +kernel) (by decide +kernel)⟩
theorem fl_X8_12 : zFl RX8 12 8 0 := ⟨RX8, TX8, 9, rfl, iX8, by decide +kernel, zT_tb (i := 227) (by decide +kernel) (by decide +kernel)⟩
theorem fl_X8_19 : zFl RX8 19 8 1 := ⟨RX8, TX8, 9, rfl, iX8, by decide +kernel, zT_tb (i := 228) (by decide +kernel) (by decide +kernel)⟩
theorem fl_X8_23 : zFl RX8 23 8 2 := ⟨RX8, TX8, 9, rfl, iX8, by decide +kernel, zT_tb (i := 229) (by decide +kernel) (by decide +kernel)⟩
theorem fl_X8_26 : zFl RX8 26 8 3 := ⟨RX8, TX8, 9, rfl, iX8, by decide +kernel, zT_tb (i := 230) (by decide +kernel) (by decide +kernel)⟩
theorem fl_X8_262 : zFl RX8 262 8 4 := ⟨RX8, TX8, 9, rfl, iX8, by decide +kernel, zT_tb (i := 231) (by decide +kernel) (by decide +kernel)⟩
theorem fl_X8_32 : zFl RX8 32 8 5 := ⟨RX8, TX8, 9, rfl, iX8, by decide +kernel, zT_tb (i := 232) (by decide +kernel) (by decide +kernel)⟩
theorem fl_X8_38 : zFl RX8 38 8 6 := ⟨RX8, TX8, 9, rfl, iX8, by decide +kernel, zT_tb (i := 233) (by decide +kernel) (by decide +kernel)⟩
theorem fl_X8_45 : zFl RX8 45 8 7 := ⟨RX8, TX8, 9, rfl, iX8, by decide +kernel, zT_tb (i := 234) (by decide +kernel) (by decide +kernel)⟩
theorem fl_X8_52 : zFl RX8 52 8 8 := ⟨RX8, TX8, 9, rfl, iX8, by decide +kernel, zT_tb (i := 235) (by decide +kernel) (by decide +kernel)⟩
theorem ml_L_13 : Cond.methodLink RL 13 yX8_come ∈ zT := zT_tb (i := 255) (by decide +kernel) (by decide +kernel)
theorem ml_X8_57 : Cond.methodLink RX8 57 yX8_noMember ∈ zT := zT_tb (i := 259) (by decide +kernel) (by decide +kernel)
theorem ml_X8_61 : Cond.methodLink RX8 61 yX0_mayCome ∈ zT := zT_tb (i := 262) (by decide +kernel) (by decide +kernel)
theorem ml_X0_90 : Cond.methodLink RX0 90 yX5_sits ∈ zT := zT_tb (i := 266) (by decide +kernel) (by decide +kernel)
theorem ml_X8_151 : Cond.methodLink RX8 151 yX8_bit ∈ zT := zT_tb (i := 273) (by decide +kernel) (by decide +kernel)
theorem ml_X8_64 : Cond.methodLink RX8 64 yX3_keep ∈ zT := zT_tb (i := 276) (by decide +kernel) (by decide +kernel)
theorem ml_X3_25 : Cond.methodLink RX3 25 yX0_take ∈ zT := zT_tb (i := 280) (by decide +kernel) (by decide +kernel)
theorem ml_X0_52 : Cond.methodLink RX0 52 yX5_take ∈ zT := zT_tb (i := 284) (by decide +kernel) (by decide +kernel)
theorem ml_X5_18 : Cond.methodLink RX5 18 arraycopyName ∈ zT := zT_tb (i := 288) (by decide +kernel) (by decide +kernel)
theorem ml_X0_56 : Cond.methodLink RX0 56 yX1_take ∈ zT := zT_tb (i := 291) (by decide +kernel) (by decide +kernel)
theorem ml_X1_34 : Cond.methodLink RX1 34 arraycopyName ∈ zT := zT_tb (i := 295) (by decide +kernel) (by decide +kernel)
theorem ml_X0_59 : Cond.methodLink RX0 59 yX2_take ∈ zT := zT_tb (i := 296) (by decide +kernel) (by decide +kernel)
theorem ml_X2_25 : Cond.methodLink RX2 25 arraycopyName ∈ zT := zT_tb (i := 300) (by decide +kernel) (by decide +kernel)
theorem ml_X0_74 : Cond.methodLink RX0 74 arraycopyName ∈ zT := zT_tb (i := 301) (by decide +kernel) (by decide +kernel)
theorem ml_X3_29 : Cond.methodLink RX3 29 yJ9_min_7cf53 ∈ zT := zT_tb (i := 302) (by decide +kernel) (by decide +kernel)
theorem ml_X8_68 : Cond.methodLink RX8 68 yX0_addComer ∈ zT := zT_tb (i := 305) (by decide +kernel) (by decide +kernel)
theorem ml_X8_76 : Cond.methodLink RX8 76 yJ6_bitCount_0f7a4 ∈ zT := zT_tb (i := 309) (by decide +kernel) (by decide +kernel)
theorem kc_J6_265 : Cond.constant RJ6 265 (1431655765) ∈ zT := zT_tb (i := 312) (by decide +kernel) (by decide +kernel)
theorem kc_J6_266 : Cond.constant RJ6 266 (858993459) ∈ zT := zT_tb (i := 313) (by decide +kernel) (by decide +kernel)
theorem kc_J6_267 : Cond.constant RJ6 267 (252645135) ∈ zT := zT_tb (i := 314) (by decide +kernel) (by decide +kernel)
theorem ml_L_18 : Cond.methodLink RL 18 yX8_leave ∈ zT := zT_tb (i := 315) (by decide +kernel) (by decide +kernel)
theorem ml_X8_82 : Cond.methodLink RX8 82 yX0_mayLeave ∈ zT := zT_tb (i := 319) (by decide +kernel) (by decide +kernel)
theorem ml_X8_85 : Cond.methodLink RX8 85 yX0_addLeaver ∈ zT := zT_tb (i := 323) (by decide +kernel) (by decide +kernel)
theorem ml_L_22 : Cond.methodLink RL 22 yX8_batch ∈ zT := zT_tb (i := 327) (by decide +kernel) (by decide +kernel)
theorem ml_X8_91 : Cond.methodLink RX8 91 yX0_batchRefusal ∈ zT := zT_tb (i := 331) (by decide +kernel) (by decide +kernel)
theorem ml_X0_98 : Cond.methodLink RX0 98 yX0_fullRefusal ∈ zT := zT_tb (i := 335) (by decide +kernel) (by decide +kernel)
theorem ml_X8_95 : Cond.methodLink RX8 95 yX0_changeAll ∈ zT := zT_tb (i := 339) (by decide +kernel) (by decide +kernel)
theorem ml_X0_136 : Cond.methodLink RX0 136 yX5_move ∈ zT := zT_tb (i := 343) (by decide +kernel) (by decide +kernel)
theorem ml_X5_34 : Cond.methodLink RX5 34 yX5_stand ∈ zT := zT_tb (i := 348) (by decide +kernel) (by decide +kernel)
theorem ml_X5_38 : Cond.methodLink RX5 38 yX5_pathFrom ∈ zT := zT_tb (i := 352) (by decide +kernel) (by decide +kernel)
theorem ml_X5_42 : Cond.methodLink RX5 42 yX5_emptiestLeaf ∈ zT := zT_tb (i := 355) (by decide +kernel) (by decide +kernel)
theorem ml_X5_59 : Cond.methodLink RX5 59 yJ6_bitCount_0f7a4 ∈ zT := zT_tb (i := 359) (by decide +kernel) (by decide +kernel)
theorem ml_X5_46 : Cond.methodLink RX5 46 yJ6_numberOfTrailingZeros_0f7a4 ∈ zT := zT_tb (i := 360) (by decide +kernel) (by decide +kernel)
theorem kc_J6_264 : Cond.constant RJ6 264 (65536) ∈ zT := zT_tb (i := 363) (by decide +kernel) (by decide +kernel)
theorem ml_X5_51 : Cond.methodLink RX5 51 yX5_sit ∈ zT := zT_tb (i := 364) (by decide +kernel) (by decide +kernel)
theorem ml_X0_140 : Cond.methodLink RX0 140 yX1_renew ∈ zT := zT_tb (i := 368) (by decide +kernel) (by decide +kernel)
theorem ml_X1_40 : Cond.methodLink RX1 40 yX5_live ∈ zT := zT_tb (i := 372) (by decide +kernel) (by decide +kernel)
theorem ml_X1_50 : Cond.methodLink RX1 50 yX1_add ∈ zT := zT_tb (i := 377) (by decide +kernel) (by decide +kernel)
theorem ml_X0_144 : Cond.methodLink RX0 144 yX1_give ∈ zT := zT_tb (i := 381) (by decide +kernel) (by decide +kernel)
theorem ml_X1_54 : Cond.methodLink RX1 54 yX1_known ∈ zT := zT_tb (i := 385) (by decide +kernel) (by decide +kernel)
theorem ml_X0_148 : Cond.methodLink RX0 148 yX0_tellChanged ∈ zT := zT_tb (i := 389) (by decide +kernel) (by decide +kernel)
theorem ml_X0_154 : Cond.methodLink RX0 154 yX0_tell ∈ zT := zT_tb (i := 393) (by decide +kernel) (by decide +kernel)
theorem ml_X0_157 : Cond.methodLink RX0 157 yX5_live ∈ zT := zT_tb (i := 397) (by decide +kernel) (by decide +kernel)
theorem ml_X0_160 : Cond.methodLink RX0 160 yX2_add ∈ zT := zT_tb (i := 398) (by decide +kernel) (by decide +kernel)
theorem ml_X0_151 : Cond.methodLink RX0 151 yX0_readByAll ∈ zT := zT_tb (i := 402) (by decide +kernel) (by decide +kernel)
theorem ml_X0_102 : Cond.methodLink RX0 102 yX0_isAwake ∈ zT := zT_tb (i := 406) (by decide +kernel) (by decide +kernel)
theorem ml_X0_164 : Cond.methodLink RX0 164 yX0_readUnread ∈ zT := zT_tb (i := 410) (by decide +kernel) (by decide +kernel)
theorem ml_X0_114 : Cond.methodLink RX0 114 yX1_held ∈ zT := zT_tb (i := 414) (by decide +kernel) (by decide +kernel)
theorem ml_X1_57 : Cond.methodLink RX1 57 yX1_holdersOf ∈ zT := zT_tb (i := 418) (by decide +kernel) (by decide +kernel)
theorem ml_L_27 : Cond.methodLink RL 27 yX8_late ∈ zT := zT_tb (i := 422) (by decide +kernel) (by decide +kernel)
theorem ml_X8_98 : Cond.methodLink RX8 98 yX0_isAwake ∈ zT := zT_tb (i := 426) (by decide +kernel) (by decide +kernel)
theorem ml_X8_101 : Cond.methodLink RX8 101 yX0_isAsleep ∈ zT := zT_tb (i := 427) (by decide +kernel) (by decide +kernel)
theorem ml_X8_104 : Cond.methodLink RX8 104 yX0_fallAsleep ∈ zT := zT_tb (i := 431) (by decide +kernel) (by decide +kernel)
theorem ml_X8_107 : Cond.methodLink RX8 107 yX0_wakeUp ∈ zT := zT_tb (i := 435) (by decide +kernel) (by decide +kernel)
theorem ml_L_32 : Cond.methodLink RL 32 yX8_lose ∈ zT := zT_tb (i := 439) (by decide +kernel) (by decide +kernel)
theorem ml_X8_110 : Cond.methodLink RX8 110 yX0_loseLetters ∈ zT := zT_tb (i := 443) (by decide +kernel) (by decide +kernel)
theorem ml_X0_174 : Cond.methodLink RX0 174 yX0_unread ∈ zT := zT_tb (i := 447) (by decide +kernel) (by decide +kernel)
theorem ml_X0_177 : Cond.methodLink RX0 177 yJ9_min_7cf53 ∈ zT := zT_tb (i := 451) (by decide +kernel) (by decide +kernel)
theorem ml_L_36 : Cond.methodLink RL 36 yX8_mend ∈ zT := zT_tb (i := 452) (by decide +kernel) (by decide +kernel)
theorem ml_X8_114 : Cond.methodLink RX8 114 yX0_mendRefusal ∈ zT := zT_tb (i := 456) (by decide +kernel) (by decide +kernel)
theorem ml_X0_105 : Cond.methodLink RX0 105 yX0_holdsAllAbove ∈ zT := zT_tb (i := 460) (by decide +kernel) (by decide +kernel)
theorem ml_X8_117 : Cond.methodLink RX8 117 yX0_mendKeys ∈ zT := zT_tb (i := 464) (by decide +kernel) (by decide +kernel)
theorem ml_L_40 : Cond.methodLink RL 40 yX8_begin ∈ zT := zT_tb (i := 468) (by decide +kernel) (by decide +kernel)
theorem ml_X8_129 : Cond.methodLink RX8 129 yX0_beginAnew ∈ zT := zT_tb (i := 472) (by decide +kernel) (by decide +kernel)
theorem ml_X0_80 : Cond.methodLink RX0 80 yX5_clear ∈ zT := zT_tb (i := 476) (by decide +kernel) (by decide +kernel)
theorem ml_X5_24 : Cond.methodLink RX5 24 yJ7_fill_53178 ∈ zT := zT_tb (i := 480) (by decide +kernel) (by decide +kernel)
theorem ml_X0_83 : Cond.methodLink RX0 83 yX1_clear ∈ zT := zT_tb (i := 481) (by decide +kernel) (by decide +kernel)
theorem ml_L_44 : Cond.methodLink RL 44 yX8_member ∈ zT := zT_tb (i := 485) (by decide +kernel) (by decide +kernel)
theorem ml_X8_135 : Cond.methodLink RX8 135 yX5_sits ∈ zT := zT_tb (i := 489) (by decide +kernel) (by decide +kernel)
theorem ml_X8_142 : Cond.methodLink RX8 142 yX1_heldBy ∈ zT := zT_tb (i := 490) (by decide +kernel) (by decide +kernel)
theorem ml_X8_145 : Cond.methodLink RX8 145 yX0_groupKey ∈ zT := zT_tb (i := 495) (by decide +kernel) (by decide +kernel)
theorem ml_X8_148 : Cond.methodLink RX8 148 yX1_holdersOf ∈ zT := zT_tb (i := 499) (by decide +kernel) (by decide +kernel)
theorem ml_X8_157 : Cond.methodLink RX8 157 yX0_unread ∈ zT := zT_tb (i := 500) (by decide +kernel) (by decide +kernel)
theorem ml_L_48 : Cond.methodLink RL 48 yX8_node ∈ zT := zT_tb (i := 501) (by decide +kernel) (by decide +kernel)
theorem ml_L_52 : Cond.methodLink RL 52 yX8_key ∈ zT := zT_tb (i := 505) (by decide +kernel) (by decide +kernel)
theorem ml_X8_166 : Cond.methodLink RX8 166 yX1_known ∈ zT := zT_tb (i := 509) (by decide +kernel) (by decide +kernel)
theorem ml_L_56 : Cond.methodLink RL 56 yX8_letter ∈ zT := zT_tb (i := 510) (by decide +kernel) (by decide +kernel)
theorem ml_X8_182 : Cond.methodLink RX8 182 yX2_known ∈ zT := zT_tb (i := 514) (by decide +kernel) (by decide +kernel)
theorem ml_L_60 : Cond.methodLink RL 60 yX8_count ∈ zT := zT_tb (i := 518) (by decide +kernel) (by decide +kernel)
theorem ml_X8_192 : Cond.methodLink RX8 192 yX5_all ∈ zT := zT_tb (i := 522) (by decide +kernel) (by decide +kernel)
theorem ml_L_64 : Cond.methodLink RL 64 yX8_why ∈ zT := zT_tb (i := 526) (by decide +kernel) (by decide +kernel)
theorem ml_X8_202 : Cond.methodLink RX8 202 yX0_whyShut ∈ zT := zT_tb (i := 530) (by decide +kernel) (by decide +kernel)
theorem ml_X0_182 : Cond.methodLink RX0 182 yX1_batchOf ∈ zT := zT_tb (i := 534) (by decide +kernel) (by decide +kernel)
theorem ml_L_68 : Cond.methodLink RL 68 yX8_opens ∈ zT := zT_tb (i := 538) (by decide +kernel) (by decide +kernel)
theorem kc_X8_205 : Cond.constant RX8 205 (65536) ∈ zT := zT_tb (i := 542) (by decide +kernel) (by decide +kernel)
theorem ml_X8_206 : Cond.methodLink RX8 206 yX4_take ∈ zT := zT_tb (i := 543) (by decide +kernel) (by decide +kernel)
theorem ml_X8_210 : Cond.methodLink RX8 210 yX4_openAll ∈ zT := zT_tb (i := 547) (by decide +kernel) (by decide +kernel)
theorem ml_X4_46 : Cond.methodLink RX4 46 yX4_open ∈ zT := zT_tb (i := 551) (by decide +kernel) (by decide +kernel)
theorem ml_X4_36 : Cond.methodLink RX4 36 yX4_has ∈ zT := zT_tb (i := 555) (by decide +kernel) (by decide +kernel)
theorem ml_X4_40 : Cond.methodLink RX4 40 yX4_lacks ∈ zT := zT_tb (i := 559) (by decide +kernel) (by decide +kernel)
theorem ml_X8_214 : Cond.methodLink RX8 214 yX4_has ∈ zT := zT_tb (i := 563) (by decide +kernel) (by decide +kernel)
theorem ml_L_72 : Cond.methodLink RL 72 yX8_due ∈ zT := zT_tb (i := 564) (by decide +kernel) (by decide +kernel)
theorem ml_X8_217 : Cond.methodLink RX8 217 yX5_take ∈ zT := zT_tb (i := 568) (by decide +kernel) (by decide +kernel)
theorem ml_X8_220 : Cond.methodLink RX8 220 yX5_move ∈ zT := zT_tb (i := 569) (by decide +kernel) (by decide +kernel)
theorem ml_X8_223 : Cond.methodLink RX8 223 yX5_lettersFor ∈ zT := zT_tb (i := 570) (by decide +kernel) (by decide +kernel)
theorem ml_X5_55 : Cond.methodLink RX5 55 yX5_live ∈ zT := zT_tb (i := 574) (by decide +kernel) (by decide +kernel)
theorem ml_X8_226 : Cond.methodLink RX8 226 yX8_planSingles ∈ zT := zT_tb (i := 575) (by decide +kernel) (by decide +kernel)
theorem ml_L_76 : Cond.methodLink RL 76 yX8_luck ∈ zT := zT_tb (i := 579) (by decide +kernel) (by decide +kernel)
theorem ml_X8_229 : Cond.methodLink RX8 229 yX8_commonOfTen ∈ zT := zT_tb (i := 583) (by decide +kernel) (by decide +kernel)
theorem ml_X8_232 : Cond.methodLink RX8 232 yX0_lettersNeeded ∈ zT := zT_tb (i := 586) (by decide +kernel) (by decide +kernel)
theorem ml_X0_185 : Cond.methodLink RX0 185 yX1_nodeOf ∈ zT := zT_tb (i := 590) (by decide +kernel) (by decide +kernel)
theorem ml_L_81 : Cond.methodLink RL 81 yX8_type ∈ zT := zT_tb (i := 594) (by decide +kernel) (by decide +kernel)
theorem ml_X8_238 : Cond.methodLink RX8 238 yX7_add ∈ zT := zT_tb (i := 598) (by decide +kernel) (by decide +kernel)
theorem ml_L_85 : Cond.methodLink RL 85 yX8_read ∈ zT := zT_tb (i := 602) (by decide +kernel) (by decide +kernel)
theorem ml_X8_242 : Cond.methodLink RX8 242 yX7_fault ∈ zT := zT_tb (i := 606) (by decide +kernel) (by decide +kernel)
theorem ml_X7_19 : Cond.methodLink RX7 19 yX7_figure ∈ zT := zT_tb (i := 610) (by decide +kernel) (by decide +kernel)
theorem ml_X7_23 : Cond.methodLink RX7 23 yX7_startsEvent ∈ zT := zT_tb (i := 613) (by decide +kernel) (by decide +kernel)
theorem ml_X8_245 : Cond.methodLink RX8 245 yX8_doEvents ∈ zT := zT_tb (i := 616) (by decide +kernel) (by decide +kernel)
theorem ml_X8_314 : Cond.methodLink RX8 314 yX8_doEvent ∈ zT := zT_tb (i := 620) (by decide +kernel) (by decide +kernel)
theorem ml_X8_318 : Cond.methodLink RX8 318 yX0_tryBatch ∈ zT := zT_tb (i := 624) (by decide +kernel) (by decide +kernel)
theorem ml_X0_130 : Cond.methodLink RX0 130 yX0_batchRefusal ∈ zT := zT_tb (i := 628) (by decide +kernel) (by decide +kernel)
theorem ml_X0_133 : Cond.methodLink RX0 133 yX0_changeAll ∈ zT := zT_tb (i := 629) (by decide +kernel) (by decide +kernel)
theorem ml_X8_322 : Cond.methodLink RX8 322 yX7_figure ∈ zT := zT_tb (i := 630) (by decide +kernel) (by decide +kernel)
theorem ml_X8_326 : Cond.methodLink RX8 326 yX0_tryCome ∈ zT := zT_tb (i := 631) (by decide +kernel) (by decide +kernel)
theorem ml_X0_117 : Cond.methodLink RX0 117 yX0_mayCome ∈ zT := zT_tb (i := 635) (by decide +kernel) (by decide +kernel)
theorem ml_X0_120 : Cond.methodLink RX0 120 yX0_addComer ∈ zT := zT_tb (i := 636) (by decide +kernel) (by decide +kernel)
theorem ml_X8_329 : Cond.methodLink RX8 329 yX0_tryLeave ∈ zT := zT_tb (i := 637) (by decide +kernel) (by decide +kernel)
theorem ml_X0_124 : Cond.methodLink RX0 124 yX0_mayLeave ∈ zT := zT_tb (i := 641) (by decide +kernel) (by decide +kernel)
theorem ml_X0_127 : Cond.methodLink RX0 127 yX0_addLeaver ∈ zT := zT_tb (i := 642) (by decide +kernel) (by decide +kernel)
theorem ml_L_89 : Cond.methodLink RL 89 yX8_drift ∈ zT := zT_tb (i := 643) (by decide +kernel) (by decide +kernel)
theorem ml_X8_248 : Cond.methodLink RX8 248 yX8_driftOnce ∈ zT := zT_tb (i := 647) (by decide +kernel) (by decide +kernel)
theorem kc_X8_332 : Cond.constant RX8 332 (1103515245) ∈ zT := zT_tb (i := 651) (by decide +kernel) (by decide +kernel)
theorem kc_X8_333 : Cond.constant RX8 333 (2147483647) ∈ zT := zT_tb (i := 652) (by decide +kernel) (by decide +kernel)
theorem ml_L_93 : Cond.methodLink RL 93 yX8_undo ∈ zT := zT_tb (i := 653) (by decide +kernel) (by decide +kernel)
theorem ml_X8_251 : Cond.methodLink RX8 251 yX3_goBack ∈ zT := zT_tb (i := 657) (by decide +kernel) (by decide +kernel)
theorem ml_L_97 : Cond.methodLink RL 97 yX8_seed ∈ zT := zT_tb (i := 661) (by decide +kernel) (by decide +kernel)
theorem ml_L_101 : Cond.methodLink RL 101 yX8_image ∈ zT := zT_tb (i := 665) (by decide +kernel) (by decide +kernel)
theorem ml_X8_257 : Cond.methodLink RX8 257 yX0_take ∈ zT := zT_tb (i := 669) (by decide +kernel) (by decide +kernel)
theorem ml_X8_259 : Cond.methodLink RX8 259 yX3_take ∈ zT := zT_tb (i := 670) (by decide +kernel) (by decide +kernel)
theorem ml_L_105 : Cond.methodLink RL 105 yX8_restore ∈ zT := zT_tb (i := 674) (by decide +kernel) (by decide +kernel)
theorem ml_L_109 : Cond.methodLink RL 109 yX8_got ∈ zT := zT_tb (i := 678) (by decide +kernel) (by decide +kernel)
theorem ml_X8_266 : Cond.methodLink RX8 266 yX8_noSheet ∈ zT := zT_tb (i := 682) (by decide +kernel) (by decide +kernel)
theorem ml_X8_269 : Cond.methodLink RX8 269 yX8_noLane ∈ zT := zT_tb (i := 685) (by decide +kernel) (by decide +kernel)
theorem ml_X8_272 : Cond.methodLink RX8 272 yX6_refusal ∈ zT := zT_tb (i := 688) (by decide +kernel) (by decide +kernel)
theorem ml_X6_28 : Cond.methodLink RX6 28 yX6_lacks ∈ zT := zT_tb (i := 692) (by decide +kernel) (by decide +kernel)
theorem ml_X8_276 : Cond.methodLink RX8 276 yX8_toldLetters ∈ zT := zT_tb (i := 696) (by decide +kernel) (by decide +kernel)
theorem ml_X8_284 : Cond.methodLink RX8 284 yX4_open ∈ zT := zT_tb (i := 700) (by decide +kernel) (by decide +kernel)
theorem ml_L_114 : Cond.methodLink RL 114 yX8_film ∈ zT := zT_tb (i := 701) (by decide +kernel) (by decide +kernel)
theorem ml_X8_288 : Cond.methodLink RX8 288 yX6_put ∈ zT := zT_tb (i := 705) (by decide +kernel) (by decide +kernel)
theorem ml_L_119 : Cond.methodLink RL 119 yX8_sheet ∈ zT := zT_tb (i := 709) (by decide +kernel) (by decide +kernel)
theorem ml_X8_292 : Cond.methodLink RX8 292 yX6_renew ∈ zT := zT_tb (i := 713) (by decide +kernel) (by decide +kernel)
theorem ml_X6_22 : Cond.methodLink RX6 22 yJ7_fill_d0a16 ∈ zT := zT_tb (i := 717) (by decide +kernel) (by decide +kernel)
theorem ml_L_123 : Cond.methodLink RL 123 yX8_drop ∈ zT := zT_tb (i := 720) (by decide +kernel) (by decide +kernel)
theorem ml_L_129 : Cond.methodLink RL 129 yX8_item ∈ zT := zT_tb (i := 724) (by decide +kernel) (by decide +kernel)
theorem ml_L_134 : Cond.methodLink RL 134 yX8_copy ∈ zT := zT_tb (i := 728) (by decide +kernel) (by decide +kernel)
theorem ml_X8_300 : Cond.methodLink RX8 300 yX6_lacks ∈ zT := zT_tb (i := 732) (by decide +kernel) (by decide +kernel)
theorem ml_X8_304 : Cond.methodLink RX8 304 arraycopyName ∈ zT := zT_tb (i := 733) (by decide +kernel) (by decide +kernel)
theorem cl_L_10 : Cond.classLink RL 10 RX9 ∈ zT := zT_tb (i := 734) (by decide +kernel) (by decide +kernel)
theorem ml_L_12 : Cond.methodLink RL 12 yX9_init ∈ zT := zT_tb (i := 736) (by decide +kernel) (by decide +kernel)
theorem ml_X9_1 : Cond.methodLink RX9 1 objectInit ∈ zT := zT_tb (i := 739) (by decide +kernel) (by decide +kernel)
theorem fl_X9_7 : zFl RX9 7 9 0 := ⟨RX9, TX9, 19, rfl, iX9, by decide +kernel, zT_tb (i := 740) (by decide +kernel) (by decide +kernel)⟩
theorem fl_X9_13 : zFl RX9 13 9 1 := ⟨RX9, TX9, 19, rfl, iX9, by decide +kernel, zT_tb (i := 741) (by decide +kernel) (by decide +kernel)⟩
theorem fl_X9_16 : zFl RX9 16 9 2 := ⟨RX9, TX9, 19, rfl, iX9, by decide +kernel, zT_tb (i := 742) (by decide +kernel) (by decide +kernel)⟩
theorem fl_X9_20 : zFl RX9 20 9 3 := ⟨RX9, TX9, 19, rfl, iX9, by decide +kernel, zT_tb (i := 743) (by decide +kernel) (by decide +kernel)⟩
theorem fl_X9_23 : zFl RX9 23 9 4 := ⟨RX9, TX9, 19, rfl, iX9, by decide +kernel, zT_tb (i := 744) (by decide +kernel) (by decide +kernel)⟩
theorem fl_X9_26 : zFl RX9 26 9 5 := ⟨RX9, TX9, 19, rfl, iX9, by decide +kernel, zT_tb (i := 745) (by decide +kernel) (by decide +kernel)⟩
theorem fl_X9_204 : zFl RX9 204 9 6 := ⟨RX9, TX9, 19, rfl, iX9, by decide +kernel, zT_tb (i := 746) (by decide +kernel) (by decide +kernel)⟩
theorem fl_X9_207 : zFl RX9 207 9 7 := ⟨RX9, TX9, 19, rfl, iX9, by decide +kernel, zT_tb (i := 747) (by decide +kernel) (by decide +kernel)⟩
theorem fl_X9_221 : zFl RX9 221 9 8 := ⟨RX9, TX9, 19, rfl, iX9, by decide +kernel, zT_tb (i := 748) (by decide +kernel) (by decide +kernel)⟩
theorem fl_X9_29 : zFl RX9 29 9 9 := ⟨RX9, TX9, 19, rfl, iX9, by decide +kernel, zT_tb (i := 749) (by decide +kernel) (by decide +kernel)⟩
theorem fl_X9_169 : zFl RX9 169 9 10 := ⟨RX9, TX9, 19, rfl, iX9, by decide +kernel, zT_tb (i := 750) (by decide +kernel) (by decide +kernel)⟩
theorem fl_X9_32 : zFl RX9 32 9 11 := ⟨RX9, TX9, 19, rfl, iX9, by decide +kernel, zT_tb (i := 751) (by decide +kernel) (by decide +kernel)⟩
theorem fl_X9_35 : zFl RX9 35 9 12 := ⟨RX9, TX9, 19, rfl, iX9, by decide +kernel, zT_tb (i := 752) (by decide +kernel) (by decide +kernel)⟩
theorem fl_X9_38 : zFl RX9 38 9 13 := ⟨RX9, TX9, 19, rfl, iX9, by decide +kernel, zT_tb (i := 753) (by decide +kernel) (by decide +kernel)⟩
theorem fl_X9_42 : zFl RX9 42 9 14 := ⟨RX9, TX9, 19, rfl, iX9, by decide +kernel, zT_tb (i := 754) (by decide +kernel) (by decide +kernel)⟩
theorem fl_X9_45 : zFl RX9 45 9 15 := ⟨RX9, TX9, 19, rfl, iX9, by decide +kernel, zT_tb (i := 755) (by decide +kernel) (by decide +kernel)⟩
theorem fl_X9_48 : zFl RX9 48 9 16 := ⟨RX9, TX9, 19, rfl, iX9, by decide +kernel, zT_tb (i := 756) (by decide +kernel) (by decide +kernel)⟩
theorem fl_X9_52 : zFl RX9 52 9 17 := ⟨RX9, TX9, 19, rfl, iX9, by decide +kernel, zT_tb (i := 757) (by decide +kernel) (by decide +kernel)⟩
theorem fl_X9_55 : zFl RX9 55 9 18 := ⟨RX9, TX9, 19, rfl, iX9, by decide +kernel, zT_tb (i := 758) (by decide +kernel) (by decide +kernel)⟩
theorem ml_L_17 : Cond.methodLink RL 17 yX9_come ∈ zT := zT_tb (i := 798) (by decide +kernel) (by decide +kernel)
theorem ml_X9_98 : Cond.methodLink RX9 98 yX9_isMember ∈ zT := zT_tb (i := 802) (by decide +kernel) (by decide +kernel)
theorem kl_X9_58 : Cond.constantLong RX9 58 (15) ∈ zT := zT_tb (i := 805) (by decide +kernel) (by decide +kernel)
theorem ml_X9_60 : Cond.methodLink RX9 60 yX9_in ∈ zT := zT_tb (i := 806) (by decide +kernel) (by decide +kernel)
theorem ml_X9_68 : Cond.methodLink RX9 68 yX9_sits ∈ zT := zT_tb (i := 809) (by decide +kernel) (by decide +kernel)
theorem ml_X9_64 : Cond.methodLink RX9 64 yX9_of ∈ zT := zT_tb (i := 813) (by decide +kernel) (by decide +kernel)
theorem ml_X9_101 : Cond.methodLink RX9 101 yX9_notes ∈ zT := zT_tb (i := 817) (by decide +kernel) (by decide +kernel)
theorem ml_X9_104 : Cond.methodLink RX9 104 yX9_put ∈ zT := zT_tb (i := 821) (by decide +kernel) (by decide +kernel)
theorem ml_X9_108 : Cond.methodLink RX9 108 yX9_those ∈ zT := zT_tb (i := 825) (by decide +kernel) (by decide +kernel)
theorem ml_X9_111 : Cond.methodLink RX9 111 yX9_bits ∈ zT := zT_tb (i := 829) (by decide +kernel) (by decide +kernel)
theorem ml_L_21 : Cond.methodLink RL 21 yX9_leave ∈ zT := zT_tb (i := 832) (by decide +kernel) (by decide +kernel)
theorem ml_L_26 : Cond.methodLink RL 26 yX9_batch ∈ zT := zT_tb (i := 836) (by decide +kernel) (by decide +kernel)
theorem ml_X9_149 : Cond.methodLink RX9 149 yX9_refusal ∈ zT := zT_tb (i := 840) (by decide +kernel) (by decide +kernel)
theorem ml_X9_126 : Cond.methodLink RX9 126 yX9_isFull ∈ zT := zT_tb (i := 844) (by decide +kernel) (by decide +kernel)
theorem ml_X9_152 : Cond.methodLink RX9 152 yX9_batches ∈ zT := zT_tb (i := 848) (by decide +kernel) (by decide +kernel)
theorem ml_X9_130 : Cond.methodLink RX9 130 yX9_takesSeats ∈ zT := zT_tb (i := 852) (by decide +kernel) (by decide +kernel)
theorem ml_X9_133 : Cond.methodLink RX9 133 yX9_shifts ∈ zT := zT_tb (i := 856) (by decide +kernel) (by decide +kernel)
theorem ml_X9_72 : Cond.methodLink RX9 72 yX9_has ∈ zT := zT_tb (i := 860) (by decide +kernel) (by decide +kernel)
theorem ml_X9_90 : Cond.methodLink RX9 90 yX9_marks ∈ zT := zT_tb (i := 863) (by decide +kernel) (by decide +kernel)
theorem ml_X9_94 : Cond.methodLink RX9 94 yX9_leafFor ∈ zT := zT_tb (i := 867) (by decide +kernel) (by decide +kernel)
theorem ml_X9_87 : Cond.methodLink RX9 87 yX9_seated ∈ zT := zT_tb (i := 871) (by decide +kernel) (by decide +kernel)
theorem ml_X9_77 : Cond.methodLink RX9 77 yX9_isBeneath ∈ zT := zT_tb (i := 875) (by decide +kernel) (by decide +kernel)
theorem ml_X9_84 : Cond.methodLink RX9 84 yX9_beneath ∈ zT := zT_tb (i := 878) (by decide +kernel) (by decide +kernel)
theorem ml_X9_137 : Cond.methodLink RX9 137 yX9_makes ∈ zT := zT_tb (i := 882) (by decide +kernel) (by decide +kernel)
theorem ml_X9_140 : Cond.methodLink RX9 140 yX9_keyOf ∈ zT := zT_tb (i := 886) (by decide +kernel) (by decide +kernel)
theorem ml_X9_80 : Cond.methodLink RX9 80 yX9_nodeOf ∈ zT := zT_tb (i := 890) (by decide +kernel) (by decide +kernel)
theorem ml_X9_143 : Cond.methodLink RX9 143 yX9_writes ∈ zT := zT_tb (i := 894) (by decide +kernel) (by decide +kernel)
theorem kc_X9_76 : Cond.constant RX9 76 (65536) ∈ zT := zT_tb (i := 898) (by decide +kernel) (by decide +kernel)
theorem ml_X9_146 : Cond.methodLink RX9 146 yX9_readAll ∈ zT := zT_tb (i := 899) (by decide +kernel) (by decide +kernel)
theorem ml_X9_123 : Cond.methodLink RX9 123 yX9_reads ∈ zT := zT_tb (i := 903) (by decide +kernel) (by decide +kernel)
theorem ml_X9_114 : Cond.methodLink RX9 114 yX9_underOf ∈ zT := zT_tb (i := 907) (by decide +kernel) (by decide +kernel)
theorem ml_X9_117 : Cond.methodLink RX9 117 yX9_holds ∈ zT := zT_tb (i := 911) (by decide +kernel) (by decide +kernel)
theorem ml_X9_120 : Cond.methodLink RX9 120 yX9_inOf ∈ zT := zT_tb (i := 915) (by decide +kernel) (by decide +kernel)
theorem ml_L_31 : Cond.methodLink RL 31 yX9_late ∈ zT := zT_tb (i := 919) (by decide +kernel) (by decide +kernel)
theorem ml_L_35 : Cond.methodLink RL 35 yX9_lose ∈ zT := zT_tb (i := 923) (by decide +kernel) (by decide +kernel)
theorem kl_X9_155 : Cond.constantLong RX9 155 (40) ∈ zT := zT_tb (i := 927) (by decide +kernel) (by decide +kernel)
theorem ml_L_39 : Cond.methodLink RL 39 yX9_mend ∈ zT := zT_tb (i := 928) (by decide +kernel) (by decide +kernel)
theorem ml_X9_160 : Cond.methodLink RX9 160 yX9_mendRefusal ∈ zT := zT_tb (i := 932) (by decide +kernel) (by decide +kernel)
theorem ml_X9_157 : Cond.methodLink RX9 157 yX9_lacks ∈ zT := zT_tb (i := 936) (by decide +kernel) (by decide +kernel)
theorem ml_X9_163 : Cond.methodLink RX9 163 yX9_mends ∈ zT := zT_tb (i := 940) (by decide +kernel) (by decide +kernel)
theorem ml_L_43 : Cond.methodLink RL 43 yX9_begin ∈ zT := zT_tb (i := 944) (by decide +kernel) (by decide +kernel)
theorem ml_L_63 : Cond.methodLink RL 63 yX9_count ∈ zT := zT_tb (i := 948) (by decide +kernel) (by decide +kernel)
theorem ml_X9_166 : Cond.methodLink RX9 166 yX9_lacking ∈ zT := zT_tb (i := 952) (by decide +kernel) (by decide +kernel)
theorem ml_L_47 : Cond.methodLink RL 47 yX9_member ∈ zT := zT_tb (i := 956) (by decide +kernel) (by decide +kernel)
theorem ml_X9_172 : Cond.methodLink RX9 172 yX9_held ∈ zT := zT_tb (i := 960) (by decide +kernel) (by decide +kernel)
theorem ml_L_51 : Cond.methodLink RL 51 yX9_node ∈ zT := zT_tb (i := 964) (by decide +kernel) (by decide +kernel)
theorem kl_X9_175 : Cond.constantLong RX9 175 (31) ∈ zT := zT_tb (i := 968) (by decide +kernel) (by decide +kernel)
theorem ml_L_55 : Cond.methodLink RL 55 yX9_key ∈ zT := zT_tb (i := 969) (by decide +kernel) (by decide +kernel)
theorem ml_X9_177 : Cond.methodLink RX9 177 yX9_isKey ∈ zT := zT_tb (i := 973) (by decide +kernel) (by decide +kernel)
theorem ml_X9_180 : Cond.methodLink RX9 180 yX9_batchOf ∈ zT := zT_tb (i := 977) (by decide +kernel) (by decide +kernel)
theorem ml_L_59 : Cond.methodLink RL 59 yX9_letter ∈ zT := zT_tb (i := 981) (by decide +kernel) (by decide +kernel)
theorem ml_X9_183 : Cond.methodLink RX9 183 yX9_isLetter ∈ zT := zT_tb (i := 985) (by decide +kernel) (by decide +kernel)
theorem ml_X9_187 : Cond.methodLink RX9 187 yX9_batchOfLetter ∈ zT := zT_tb (i := 989) (by decide +kernel) (by decide +kernel)
theorem ml_L_67 : Cond.methodLink RL 67 yX9_why ∈ zT := zT_tb (i := 993) (by decide +kernel) (by decide +kernel)
theorem ml_L_71 : Cond.methodLink RL 71 yX9_opens ∈ zT := zT_tb (i := 997) (by decide +kernel) (by decide +kernel)
theorem kl_X9_190 : Cond.constantLong RX9 190 (65535) ∈ zT := zT_tb (i := 1001) (by decide +kernel) (by decide +kernel)
theorem ml_X9_192 : Cond.methodLink RX9 192 yX9_opensAll ∈ zT := zT_tb (i := 1002) (by decide +kernel) (by decide +kernel)
theorem ml_L_75 : Cond.methodLink RL 75 yX9_due ∈ zT := zT_tb (i := 1006) (by decide +kernel) (by decide +kernel)
theorem ml_X9_195 : Cond.methodLink RX9 195 yX9_letters ∈ zT := zT_tb (i := 1010) (by decide +kernel) (by decide +kernel)
theorem ml_L_80 : Cond.methodLink RL 80 yX9_luck ∈ zT := zT_tb (i := 1014) (by decide +kernel) (by decide +kernel)
theorem kl_X9_198 : Cond.constantLong RX9 198 (10) ∈ zT := zT_tb (i := 1018) (by decide +kernel) (by decide +kernel)
theorem ml_L_84 : Cond.methodLink RL 84 yX9_type ∈ zT := zT_tb (i := 1019) (by decide +kernel) (by decide +kernel)
theorem kl_X9_200 : Cond.constantLong RX9 200 (32) ∈ zT := zT_tb (i := 1023) (by decide +kernel) (by decide +kernel)
theorem kl_X9_202 : Cond.constantLong RX9 202 (126) ∈ zT := zT_tb (i := 1024) (by decide +kernel) (by decide +kernel)
theorem ml_L_88 : Cond.methodLink RL 88 yX9_read ∈ zT := zT_tb (i := 1025) (by decide +kernel) (by decide +kernel)
theorem ml_X9_230 : Cond.methodLink RX9 230 yX9_goesThrough ∈ zT := zT_tb (i := 1029) (by decide +kernel) (by decide +kernel)
theorem ml_X9_210 : Cond.methodLink RX9 210 yX9_here ∈ zT := zT_tb (i := 1033) (by decide +kernel) (by decide +kernel)
theorem ml_X9_224 : Cond.methodLink RX9 224 yX9_event ∈ zT := zT_tb (i := 1037) (by decide +kernel) (by decide +kernel)
theorem kl_X9_213 : Cond.constantLong RX9 213 (48) ∈ zT := zT_tb (i := 1041) (by decide +kernel) (by decide +kernel)
theorem kl_X9_215 : Cond.constantLong RX9 215 (57) ∈ zT := zT_tb (i := 1042) (by decide +kernel) (by decide +kernel)
theorem kl_X9_217 : Cond.constantLong RX9 217 (97) ∈ zT := zT_tb (i := 1043) (by decide +kernel) (by decide +kernel)
theorem kl_X9_219 : Cond.constantLong RX9 219 (102) ∈ zT := zT_tb (i := 1044) (by decide +kernel) (by decide +kernel)
theorem ml_X9_227 : Cond.methodLink RX9 227 yX9_does ∈ zT := zT_tb (i := 1045) (by decide +kernel) (by decide +kernel)
theorem ml_L_92 : Cond.methodLink RL 92 yX9_drift ∈ zT := zT_tb (i := 1049) (by decide +kernel) (by decide +kernel)
theorem kl_X9_234 : Cond.constantLong RX9 234 (1103515245) ∈ zT := zT_tb (i := 1053) (by decide +kernel) (by decide +kernel)
theorem kl_X9_236 : Cond.constantLong RX9 236 (12345) ∈ zT := zT_tb (i := 1054) (by decide +kernel) (by decide +kernel)
theorem kl_X9_238 : Cond.constantLong RX9 238 (2147483648) ∈ zT := zT_tb (i := 1055) (by decide +kernel) (by decide +kernel)
theorem kl_X9_240 : Cond.constantLong RX9 240 (65536) ∈ zT := zT_tb (i := 1056) (by decide +kernel) (by decide +kernel)
theorem ml_X9_242 : Cond.methodLink RX9 242 yX9_happens ∈ zT := zT_tb (i := 1057) (by decide +kernel) (by decide +kernel)
theorem ml_L_100 : Cond.methodLink RL 100 yX9_seed ∈ zT := zT_tb (i := 1061) (by decide +kernel) (by decide +kernel)
theorem ml_L_96 : Cond.methodLink RL 96 yX9_undo ∈ zT := zT_tb (i := 1065) (by decide +kernel) (by decide +kernel)
theorem ml_L_104 : Cond.methodLink RL 104 yX9_image ∈ zT := zT_tb (i := 1069) (by decide +kernel) (by decide +kernel)
theorem ml_L_108 : Cond.methodLink RL 108 yX9_restore ∈ zT := zT_tb (i := 1073) (by decide +kernel) (by decide +kernel)
theorem ml_L_122 : Cond.methodLink RL 122 yX9_sheet ∈ zT := zT_tb (i := 1077) (by decide +kernel) (by decide +kernel)
theorem ml_X9_247 : Cond.methodLink RX9 247 yX9_isSheet ∈ zT := zT_tb (i := 1081) (by decide +kernel) (by decide +kernel)
theorem kl_X9_245 : Cond.constantLong RX9 245 (3) ∈ zT := zT_tb (i := 1084) (by decide +kernel) (by decide +kernel)
theorem ml_L_126 : Cond.methodLink RL 126 yX9_drop ∈ zT := zT_tb (i := 1085) (by decide +kernel) (by decide +kernel)
theorem ml_L_133 : Cond.methodLink RL 133 yX9_item ∈ zT := zT_tb (i := 1089) (by decide +kernel) (by decide +kernel)
theorem ml_X9_250 : Cond.methodLink RX9 250 yX9_whyNot ∈ zT := zT_tb (i := 1093) (by decide +kernel) (by decide +kernel)
theorem ml_X9_254 : Cond.methodLink RX9 254 yX9_cut ∈ zT := zT_tb (i := 1097) (by decide +kernel) (by decide +kernel)
theorem ml_L_137 : Cond.methodLink RL 137 yX9_copy ∈ zT := zT_tb (i := 1100) (by decide +kernel) (by decide +kernel)
theorem ml_L_113 : Cond.methodLink RL 113 yX9_got ∈ zT := zT_tb (i := 1104) (by decide +kernel) (by decide +kernel)
theorem kl_X9_258 : Cond.constantLong RX9 258 (24) ∈ zT := zT_tb (i := 1108) (by decide +kernel) (by decide +kernel)
theorem ml_L_118 : Cond.methodLink RL 118 yX9_film ∈ zT := zT_tb (i := 1109) (by decide +kernel) (by decide +kernel)
theorem kl_X9_260 : Cond.constantLong RX9 260 (16) ∈ zT := zT_tb (i := 1113) (by decide +kernel) (by decide +kernel)
theorem kl_L_127 : Cond.constantLong RL 127 (4294967295) ∈ zT := zT_tb (i := 1114) (by decide +kernel) (by decide +kernel)
theorem mtX8_init : zMi yX8_init cX8_init 2 0 := ⟨zT_tb (i := 19) (by decide +kernel) (by decide +kernel), zT_tb (i := 1) (by decide +kernel) (by decide +kernel), zT_tb (i := 18) (by decide +kernel) (by decide +kernel), by decide +kernel, ⟨by decide +kernel, by decide +kernel, by decide +kernel⟩⟩
theorem mtX0_init : zMi yX0_init cX0_init 1 0 := ⟨zT_tb (i := 27) (by decide +kernel) (by decide +kernel), zT_tb (i := 2) (by decide +kernel) (by decide +kernel), zT_tb (i := 26) (by decide +kernel) (by decide +kernel), by decide +kernel, ⟨by decide +kernel, by decide +kernel, by decide +kernel⟩⟩
theorem mtX5_init : zMi yX5_init cX5_init 1 0 := ⟨zT_tb (i := 33) (by decide +kernel) (by decide +kernel), zT_tb (i := 3) (by decide +kernel) (by decide +kernel), zT_tb (i := 32) (by decide +kernel) (by decide +kernel), by decide +kernel, ⟨by decide +kernel, by decide +kernel, by decide +kernel⟩⟩
theorem mtX1_init : zMi yX1_init cX1_init 1 0 := ⟨zT_tb (i := 51) (by decide +kernel) (by decide +kernel), zT_tb (i := 4) (by decide +kernel) (by decide +kernel), zT_tb (i := 50) (by decide +kernel) (by decide +kernel), by decide +kernel, ⟨by decide +kernel, by decide +kernel, by decide +kernel⟩⟩
theorem mtJ7_fill_53178 : zMs yJ7_fill_53178 cJ7_fill_53178 4 none 2 := ⟨zT_tb (i := 55) (by decide +kernel) (by decide +kernel), zT_tb (i := 5) (by decide +kernel) (by decide +kernel), zT_tb (i := 54) (by decide +kernel) (by decide +kernel), ⟨by decide +kernel, by decide +kernel, by decide +kernel⟩⟩
theorem mtX2_init : zMi yX2_init cX2_init 1 0 := ⟨zT_tb (i := 85) (by decide +kernel) (by decide +kernel), zT_tb (i := 6) (by decide +kernel) (by decide +kernel), zT_tb (i := 84) (by decide +kernel) (by decide +kernel), by decide +kernel, ⟨by decide +kernel, by decide +kernel, by decide +kernel⟩⟩
theorem mtX3_init : zMi yX3_init cX3_init 2 0 := ⟨zT_tb (i := 158) (by decide +kernel) (by decide +kernel), zT_tb (i := 7) (by decide +kernel) (by decide +kernel), zT_tb (i := 157) (by decide +kernel) (by decide +kernel), by decide +kernel, ⟨by decide +kernel, by decide +kernel, by decide +kernel⟩⟩
theorem mtX7_init : zMi yX7_init cX7_init 1 0 := ⟨zT_tb (i := 178) (by decide +kernel) (by decide +kernel), zT_tb (i := 8) (by decide +kernel) (by decide +kernel), zT_tb (i := 177) (by decide +kernel) (by decide +kernel), by decide +kernel, ⟨by decide +kernel, by decide +kernel, by decide +kernel⟩⟩
theorem mtX4_init : zMi yX4_init cX4_init 1 0 := ⟨zT_tb (i := 198) (by decide +kernel) (by decide +kernel), zT_tb (i := 9) (by decide +kernel) (by decide +kernel), zT_tb (i := 197) (by decide +kernel) (by decide +kernel), by decide +kernel, ⟨by decide +kernel, by decide +kernel, by decide +kernel⟩⟩
theorem mtX6_init : zMi yX6_init cX6_init 1 0 := ⟨zT_tb (i := 211) (by decide +kernel) (by decide +kernel), zT_tb (i := 10) (by decide +kernel) (by decide +kernel), zT_tb (i := 210) (by decide +kernel) (by decide +kernel), by decide +kernel, ⟨by decide +kernel, by decide +kernel, by decide +kernel⟩⟩
theorem mtX8_come : zMv yX8_come cX8_come 2 (some .int) 1 := ⟨zT_tb (i := 258) (by decide +kernel) (by decide +kernel), zT_tb (i := 1) (by decide +kernel) (by decide +kernel), zT_tb (i := 256) (by decide +kernel) (by decide +kernel), zT_tb (i := 257) (by decide +kernel) (by decide +kernel), ⟨by decide +kernel, by decide +kernel, by decide +kernel⟩⟩
theorem mtX8_noMember : zMs yX8_noMember cX8_noMember 1 (some .boolean) 1 := ⟨zT_tb (i := 261) (by decide +kernel) (by decide +kernel), zT_tb (i := 1) (by decide +kernel) (by decide +kernel), zT_tb (i := 260) (by decide +kernel) (by decide +kernel), ⟨by decide +kernel, by decide +kernel, by decide +kernel⟩⟩
theorem mtX0_mayCome : zMv yX0_mayCome cX0_mayCome 2 (some .boolean) 1 := ⟨zT_tb (i := 265) (by decide +kernel) (by decide +kernel), zT_tb (i := 2) (by decide +kernel) (by decide +kernel), zT_tb (i := 263) (by decide +kernel) (by decide +kernel), zT_tb (i := 264) (by decide +kernel) (by decide +kernel), ⟨by decide +kernel, by decide +kernel, by decide +kernel⟩⟩
theorem mtX5_sits : zMv yX5_sits cX5_sits 2 (some .boolean) 1 := ⟨zT_tb (i := 269) (by decide +kernel) (by decide +kernel), zT_tb (i := 3) (by decide +kernel) (by decide +kernel), zT_tb (i := 267) (by decide +kernel) (by decide +kernel), zT_tb (i := 268) (by decide +kernel) (by decide +kernel), ⟨by decide +kernel, by decide +kernel, by decide +kernel⟩⟩
theorem mtX8_has : zMs yX8_has cX8_has 2 (some .boolean) 2 := ⟨zT_tb (i := 272) (by decide +kernel) (by decide +kernel), zT_tb (i := 1) (by decide +kernel) (by decide +kernel), zT_tb (i := 271) (by decide +kernel) (by decide +kernel), ⟨by decide +kernel, by decide +kernel, by decide +kernel⟩⟩
theorem mtX8_bit : zMs yX8_bit cX8_bit 2 (some .int) 2 := ⟨zT_tb (i := 275) (by decide +kernel) (by decide +kernel), zT_tb (i := 1) (by decide +kernel) (by decide +kernel), zT_tb (i := 274) (by decide +kernel) (by decide +kernel), ⟨by decide +kernel, by decide +kernel, by decide +kernel⟩⟩
theorem mtX3_keep : zMv yX3_keep cX3_keep 2 none 1 := ⟨zT_tb (i := 279) (by decide +kernel) (by decide +kernel), zT_tb (i := 7) (by decide +kernel) (by decide +kernel), zT_tb (i := 277) (by decide +kernel) (by decide +kernel), zT_tb (i := 278) (by decide +kernel) (by decide +kernel), ⟨by decide +kernel, by decide +kernel, by decide +kernel⟩⟩
theorem mtX0_take : zMv yX0_take cX0_take 2 none 1 := ⟨zT_tb (i := 283) (by decide +kernel) (by decide +kernel), zT_tb (i := 2) (by decide +kernel) (by decide +kernel), zT_tb (i := 281) (by decide +kernel) (by decide +kernel), zT_tb (i := 282) (by decide +kernel) (by decide +kernel), ⟨by decide +kernel, by decide +kernel, by decide +kernel⟩⟩
theorem mtX5_take : zMv yX5_take cX5_take 2 none 1 := ⟨zT_tb (i := 287) (by decide +kernel) (by decide +kernel), zT_tb (i := 3) (by decide +kernel) (by decide +kernel), zT_tb (i := 285) (by decide +kernel) (by decide +kernel), zT_tb (i := 286) (by decide +kernel) (by decide +kernel), ⟨by decide +kernel, by decide +kernel, by decide +kernel⟩⟩
theorem mtX1_take : zMv yX1_take cX1_take 2 none 1 := ⟨zT_tb (i := 294) (by decide +kernel) (by decide +kernel), zT_tb (i := 4) (by decide +kernel) (by decide +kernel), zT_tb (i := 292) (by decide +kernel) (by decide +kernel), zT_tb (i := 293) (by decide +kernel) (by decide +kernel), ⟨by decide +kernel, by decide +kernel, by decide +kernel⟩⟩
theorem mtX2_take : zMv yX2_take cX2_take 2 none 1 := ⟨zT_tb (i := 299) (by decide +kernel) (by decide +kernel), zT_tb (i := 6) (by decide +kernel) (by decide +kernel), zT_tb (i := 297) (by decide +kernel) (by decide +kernel), zT_tb (i := 298) (by decide +kernel) (by decide +kernel), ⟨by decide +kernel, by decide +kernel, by decide +kernel⟩⟩
theorem mtJ9_min_7cf53 : zMs yJ9_min_7cf53 cJ9_min_7cf53 2 (some .int) 2 := ⟨zT_tb (i := 304) (by decide +kernel) (by decide +kernel), zT_tb (i := 13) (by decide +kernel) (by decide +kernel), zT_tb (i := 303) (by decide +kernel) (by decide +kernel), ⟨by decide +kernel, by decide +kernel, by decide +kernel⟩⟩
theorem mtX0_addComer : zMv yX0_addComer cX0_addComer 2 none 1 := ⟨zT_tb (i := 308) (by decide +kernel) (by decide +kernel), zT_tb (i := 2) (by decide +kernel) (by decide +kernel), zT_tb (i := 306) (by decide +kernel) (by decide +kernel), zT_tb (i := 307) (by decide +kernel) (by decide +kernel), ⟨by decide +kernel, by decide +kernel, by decide +kernel⟩⟩
theorem mtJ6_bitCount_0f7a4 : zMs yJ6_bitCount_0f7a4 cJ6_bitCount_0f7a4 1 (some .int) 1 := ⟨zT_tb (i := 311) (by decide +kernel) (by decide +kernel), zT_tb (i := 14) (by decide +kernel) (by decide +kernel), zT_tb (i := 310) (by decide +kernel) (by decide +kernel), ⟨by decide +kernel, by decide +kernel, by decide +kernel⟩⟩
theorem mtX8_leave : zMv yX8_leave cX8_leave 2 (some .int) 1 := ⟨zT_tb (i := 318) (by decide +kernel) (by decide +kernel), zT_tb (i := 1) (by decide +kernel) (by decide +kernel), zT_tb (i := 316) (by decide +kernel) (by decide +kernel), zT_tb (i := 317) (by decide +kernel) (by decide +kernel), ⟨by decide +kernel, by decide +kernel, by decide +kernel⟩⟩
theorem mtX0_mayLeave : zMv yX0_mayLeave cX0_mayLeave 2 (some .boolean) 1 := ⟨zT_tb (i := 322) (by decide +kernel) (by decide +kernel), zT_tb (i := 2) (by decide +kernel) (by decide +kernel), zT_tb (i := 320) (by decide +kernel) (by decide +kernel), zT_tb (i := 321) (by decide +kernel) (by decide +kernel), ⟨by decide +kernel, by decide +kernel, by decide +kernel⟩⟩
theorem mtX0_addLeaver : zMv yX0_addLeaver cX0_addLeaver 2 none 1 := ⟨zT_tb (i := 326) (by decide +kernel) (by decide +kernel), zT_tb (i := 2) (by decide +kernel) (by decide +kernel), zT_tb (i := 324) (by decide +kernel) (by decide +kernel), zT_tb (i := 325) (by decide +kernel) (by decide +kernel), ⟨by decide +kernel, by decide +kernel, by decide +kernel⟩⟩
theorem mtX8_batch : zMv yX8_batch cX8_batch 2 (some .int) 0 := ⟨zT_tb (i := 330) (by decide +kernel) (by decide +kernel), zT_tb (i := 1) (by decide +kernel) (by decide +kernel), zT_tb (i := 328) (by decide +kernel) (by decide +kernel), zT_tb (i := 329) (by decide +kernel) (by decide +kernel), ⟨by decide +kernel, by decide +kernel, by decide +kernel⟩⟩
theorem mtX0_batchRefusal : zMv yX0_batchRefusal cX0_batchRefusal 1 (some .int) 0 := ⟨zT_tb (i := 334) (by decide +kernel) (by decide +kernel), zT_tb (i := 2) (by decide +kernel) (by decide +kernel), zT_tb (i := 332) (by decide +kernel) (by decide +kernel), zT_tb (i := 333) (by decide +kernel) (by decide +kernel), ⟨by decide +kernel, by decide +kernel, by decide +kernel⟩⟩
theorem mtX0_fullRefusal : zMv yX0_fullRefusal cX0_fullRefusal 1 (some .int) 0 := ⟨zT_tb (i := 338) (by decide +kernel) (by decide +kernel), zT_tb (i := 2) (by decide +kernel) (by decide +kernel), zT_tb (i := 337) (by decide +kernel) (by decide +kernel), zT_pr (i := 0) (by decide +kernel) (by decide +kernel), ⟨by decide +kernel, by decide +kernel, by decide +kernel⟩⟩
theorem mtX0_changeAll : zMv yX0_changeAll cX0_changeAll 4 (some .int) 0 := ⟨zT_tb (i := 342) (by decide +kernel) (by decide +kernel), zT_tb (i := 2) (by decide +kernel) (by decide +kernel), zT_tb (i := 340) (by decide +kernel) (by decide +kernel), zT_tb (i := 341) (by decide +kernel) (by decide +kernel), ⟨by decide +kernel, by decide +kernel, by decide +kernel⟩⟩
theorem mtX5_move : zMv yX5_move cX5_move 7 (some .int) 2 := ⟨zT_tb (i := 346) (by decide +kernel) (by decide +kernel), zT_tb (i := 3) (by decide +kernel) (by decide +kernel), zT_tb (i := 344) (by decide +kernel) (by decide +kernel), zT_tb (i := 345) (by decide +kernel) (by decide +kernel), ⟨by decide +kernel, by decide +kernel, by decide +kernel⟩⟩
theorem mtX5_stand : zMv yX5_stand cX5_stand 3 none 1 := ⟨zT_tb (i := 351) (by decide +kernel) (by decide +kernel), zT_tb (i := 3) (by decide +kernel) (by decide +kernel), zT_tb (i := 350) (by decide +kernel) (by decide +kernel), zT_pr (i := 1) (by decide +kernel) (by decide +kernel), ⟨by decide +kernel, by decide +kernel, by decide +kernel⟩⟩
theorem mtX5_pathFrom : zMs yX5_pathFrom cX5_pathFrom 3 (some .int) 1 := ⟨zT_tb (i := 354) (by decide +kernel) (by decide +kernel), zT_tb (i := 3) (by decide +kernel) (by decide +kernel), zT_tb (i := 353) (by decide +kernel) (by decide +kernel), ⟨by decide +kernel, by decide +kernel, by decide +kernel⟩⟩
theorem mtX5_emptiestLeaf : zMv yX5_emptiestLeaf cX5_emptiestLeaf 4 (some .int) 0 := ⟨zT_tb (i := 358) (by decide +kernel) (by decide +kernel), zT_tb (i := 3) (by decide +kernel) (by decide +kernel), zT_tb (i := 357) (by decide +kernel) (by decide +kernel), zT_pr (i := 2) (by decide +kernel) (by decide +kernel), ⟨by decide +kernel, by decide +kernel, by decide +kernel⟩⟩
theorem mtJ6_numberOfTrailingZeros_0f7a4 : zMs yJ6_numberOfTrailingZeros_0f7a4 cJ6_numberOfTrailingZeros_0f7a4 2 (some .int) 1 := ⟨zT_tb (i := 362) (by decide +kernel) (by decide +kernel), zT_tb (i := 14) (by decide +kernel) (by decide +kernel), zT_tb (i := 361) (by decide +kernel) (by decide +kernel), ⟨by decide +kernel, by decide +kernel, by decide +kernel⟩⟩
theorem mtX5_sit : zMv yX5_sit cX5_sit 4 none 2 := ⟨zT_tb (i := 367) (by decide +kernel) (by decide +kernel), zT_tb (i := 3) (by decide +kernel) (by decide +kernel), zT_tb (i := 366) (by decide +kernel) (by decide +kernel), zT_pr (i := 3) (by decide +kernel) (by decide +kernel), ⟨by decide +kernel, by decide +kernel, by decide +kernel⟩⟩
theorem mtX1_renew : zMv yX1_renew cX1_renew 5 none 3 := ⟨zT_tb (i := 371) (by decide +kernel) (by decide +kernel), zT_tb (i := 4) (by decide +kernel) (by decide +kernel), zT_tb (i := 369) (by decide +kernel) (by decide +kernel), zT_tb (i := 370) (by decide +kernel) (by decide +kernel), ⟨by decide +kernel, by decide +kernel, by decide +kernel⟩⟩
theorem mtX5_live : zMv yX5_live cX5_live 2 (some .boolean) 1 := ⟨zT_tb (i := 375) (by decide +kernel) (by decide +kernel), zT_tb (i := 3) (by decide +kernel) (by decide +kernel), zT_tb (i := 373) (by decide +kernel) (by decide +kernel), zT_tb (i := 374) (by decide +kernel) (by decide +kernel), ⟨by decide +kernel, by decide +kernel, by decide +kernel⟩⟩
theorem mtX1_add : zMv yX1_add cX1_add 3 (some .int) 2 := ⟨zT_tb (i := 380) (by decide +kernel) (by decide +kernel), zT_tb (i := 4) (by decide +kernel) (by decide +kernel), zT_tb (i := 379) (by decide +kernel) (by decide +kernel), zT_pr (i := 4) (by decide +kernel) (by decide +kernel), ⟨by decide +kernel, by decide +kernel, by decide +kernel⟩⟩
theorem mtX1_give : zMv yX1_give cX1_give 3 none 2 := ⟨zT_tb (i := 384) (by decide +kernel) (by decide +kernel), zT_tb (i := 4) (by decide +kernel) (by decide +kernel), zT_tb (i := 382) (by decide +kernel) (by decide +kernel), zT_tb (i := 383) (by decide +kernel) (by decide +kernel), ⟨by decide +kernel, by decide +kernel, by decide +kernel⟩⟩
theorem mtX1_known : zMv yX1_known cX1_known 2 (some .boolean) 1 := ⟨zT_tb (i := 388) (by decide +kernel) (by decide +kernel), zT_tb (i := 4) (by decide +kernel) (by decide +kernel), zT_tb (i := 386) (by decide +kernel) (by decide +kernel), zT_tb (i := 387) (by decide +kernel) (by decide +kernel), ⟨by decide +kernel, by decide +kernel, by decide +kernel⟩⟩
theorem mtX0_tellChanged : zMv yX0_tellChanged cX0_tellChanged 3 none 1 := ⟨zT_tb (i := 392) (by decide +kernel) (by decide +kernel), zT_tb (i := 2) (by decide +kernel) (by decide +kernel), zT_tb (i := 391) (by decide +kernel) (by decide +kernel), zT_pr (i := 5) (by decide +kernel) (by decide +kernel), ⟨by decide +kernel, by decide +kernel, by decide +kernel⟩⟩
theorem mtX0_tell : zMv yX0_tell cX0_tell 3 none 2 := ⟨zT_tb (i := 396) (by decide +kernel) (by decide +kernel), zT_tb (i := 2) (by decide +kernel) (by decide +kernel), zT_tb (i := 395) (by decide +kernel) (by decide +kernel), zT_pr (i := 6) (by decide +kernel) (by decide +kernel), ⟨by decide +kernel, by decide +kernel, by decide +kernel⟩⟩
theorem mtX2_add : zMv yX2_add cX2_add 4 none 3 := ⟨zT_tb (i := 401) (by decide +kernel) (by decide +kernel), zT_tb (i := 6) (by decide +kernel) (by decide +kernel), zT_tb (i := 399) (by decide +kernel) (by decide +kernel), zT_tb (i := 400) (by decide +kernel) (by decide +kernel), ⟨by decide +kernel, by decide +kernel, by decide +kernel⟩⟩
theorem mtX0_readByAll : zMv yX0_readByAll cX0_readByAll 2 none 0 := ⟨zT_tb (i := 405) (by decide +kernel) (by decide +kernel), zT_tb (i := 2) (by decide +kernel) (by decide +kernel), zT_tb (i := 404) (by decide +kernel) (by decide +kernel), zT_pr (i := 7) (by decide +kernel) (by decide +kernel), ⟨by decide +kernel, by decide +kernel, by decide +kernel⟩⟩
theorem mtX0_isAwake : zMv yX0_isAwake cX0_isAwake 2 (some .boolean) 1 := ⟨zT_tb (i := 409) (by decide +kernel) (by decide +kernel), zT_tb (i := 2) (by decide +kernel) (by decide +kernel), zT_tb (i := 407) (by decide +kernel) (by decide +kernel), zT_tb (i := 408) (by decide +kernel) (by decide +kernel), ⟨by decide +kernel, by decide +kernel, by decide +kernel⟩⟩
theorem mtX0_readUnread : zMv yX0_readUnread cX0_readUnread 5 (some .int) 1 := ⟨zT_tb (i := 413) (by decide +kernel) (by decide +kernel), zT_tb (i := 2) (by decide +kernel) (by decide +kernel), zT_tb (i := 412) (by decide +kernel) (by decide +kernel), zT_pr (i := 8) (by decide +kernel) (by decide +kernel), ⟨by decide +kernel, by decide +kernel, by decide +kernel⟩⟩
theorem mtX1_held : zMv yX1_held cX1_held 3 (some .boolean) 2 := ⟨zT_tb (i := 417) (by decide +kernel) (by decide +kernel), zT_tb (i := 4) (by decide +kernel) (by decide +kernel), zT_tb (i := 415) (by decide +kernel) (by decide +kernel), zT_tb (i := 416) (by decide +kernel) (by decide +kernel), ⟨by decide +kernel, by decide +kernel, by decide +kernel⟩⟩
theorem mtX1_holdersOf : zMv yX1_holdersOf cX1_holdersOf 2 (some .int) 1 := ⟨zT_tb (i := 421) (by decide +kernel) (by decide +kernel), zT_tb (i := 4) (by decide +kernel) (by decide +kernel), zT_tb (i := 419) (by decide +kernel) (by decide +kernel), zT_tb (i := 420) (by decide +kernel) (by decide +kernel), ⟨by decide +kernel, by decide +kernel, by decide +kernel⟩⟩
theorem mtX8_late : zMv yX8_late cX8_late 5 (some .int) 2 := ⟨zT_tb (i := 425) (by decide +kernel) (by decide +kernel), zT_tb (i := 1) (by decide +kernel) (by decide +kernel), zT_tb (i := 423) (by decide +kernel) (by decide +kernel), zT_tb (i := 424) (by decide +kernel) (by decide +kernel), ⟨by decide +kernel, by decide +kernel, by decide +kernel⟩⟩
theorem mtX0_isAsleep : zMv yX0_isAsleep cX0_isAsleep 2 (some .boolean) 1 := ⟨zT_tb (i := 430) (by decide +kernel) (by decide +kernel), zT_tb (i := 2) (by decide +kernel) (by decide +kernel), zT_tb (i := 428) (by decide +kernel) (by decide +kernel), zT_tb (i := 429) (by decide +kernel) (by decide +kernel), ⟨by decide +kernel, by decide +kernel, by decide +kernel⟩⟩
theorem mtX0_fallAsleep : zMv yX0_fallAsleep cX0_fallAsleep 2 (some .int) 1 := ⟨zT_tb (i := 434) (by decide +kernel) (by decide +kernel), zT_tb (i := 2) (by decide +kernel) (by decide +kernel), zT_tb (i := 432) (by decide +kernel) (by decide +kernel), zT_tb (i := 433) (by decide +kernel) (by decide +kernel), ⟨by decide +kernel, by decide +kernel, by decide +kernel⟩⟩
theorem mtX0_wakeUp : zMv yX0_wakeUp cX0_wakeUp 2 (some .int) 1 := ⟨zT_tb (i := 438) (by decide +kernel) (by decide +kernel), zT_tb (i := 2) (by decide +kernel) (by decide +kernel), zT_tb (i := 436) (by decide +kernel) (by decide +kernel), zT_tb (i := 437) (by decide +kernel) (by decide +kernel), ⟨by decide +kernel, by decide +kernel, by decide +kernel⟩⟩
theorem mtX8_lose : zMv yX8_lose cX8_lose 3 (some .int) 2 := ⟨zT_tb (i := 442) (by decide +kernel) (by decide +kernel), zT_tb (i := 1) (by decide +kernel) (by decide +kernel), zT_tb (i := 440) (by decide +kernel) (by decide +kernel), zT_tb (i := 441) (by decide +kernel) (by decide +kernel), ⟨by decide +kernel, by decide +kernel, by decide +kernel⟩⟩
theorem mtX0_loseLetters : zMv yX0_loseLetters cX0_loseLetters 4 (some .int) 2 := ⟨zT_tb (i := 446) (by decide +kernel) (by decide +kernel), zT_tb (i := 2) (by decide +kernel) (by decide +kernel), zT_tb (i := 444) (by decide +kernel) (by decide +kernel), zT_tb (i := 445) (by decide +kernel) (by decide +kernel), ⟨by decide +kernel, by decide +kernel, by decide +kernel⟩⟩
theorem mtX0_unread : zMv yX0_unread cX0_unread 2 (some .int) 1 := ⟨zT_tb (i := 450) (by decide +kernel) (by decide +kernel), zT_tb (i := 2) (by decide +kernel) (by decide +kernel), zT_tb (i := 448) (by decide +kernel) (by decide +kernel), zT_tb (i := 449) (by decide +kernel) (by decide +kernel), ⟨by decide +kernel, by decide +kernel, by decide +kernel⟩⟩
theorem mtX8_mend : zMv yX8_mend cX8_mend 3 (some .int) 1 := ⟨zT_tb (i := 455) (by decide +kernel) (by decide +kernel), zT_tb (i := 1) (by decide +kernel) (by decide +kernel), zT_tb (i := 453) (by decide +kernel) (by decide +kernel), zT_tb (i := 454) (by decide +kernel) (by decide +kernel), ⟨by decide +kernel, by decide +kernel, by decide +kernel⟩⟩
theorem mtX0_mendRefusal : zMv yX0_mendRefusal cX0_mendRefusal 2 (some .int) 1 := ⟨zT_tb (i := 459) (by decide +kernel) (by decide +kernel), zT_tb (i := 2) (by decide +kernel) (by decide +kernel), zT_tb (i := 457) (by decide +kernel) (by decide +kernel), zT_tb (i := 458) (by decide +kernel) (by decide +kernel), ⟨by decide +kernel, by decide +kernel, by decide +kernel⟩⟩
theorem mtX0_holdsAllAbove : zMv yX0_holdsAllAbove cX0_holdsAllAbove 3 (some .boolean) 1 := ⟨zT_tb (i := 463) (by decide +kernel) (by decide +kernel), zT_tb (i := 2) (by decide +kernel) (by decide +kernel), zT_tb (i := 462) (by decide +kernel) (by decide +kernel), zT_pr (i := 9) (by decide +kernel) (by decide +kernel), ⟨by decide +kernel, by decide +kernel, by decide +kernel⟩⟩
theorem mtX0_mendKeys : zMv yX0_mendKeys cX0_mendKeys 6 (some .int) 1 := ⟨zT_tb (i := 467) (by decide +kernel) (by decide +kernel), zT_tb (i := 2) (by decide +kernel) (by decide +kernel), zT_tb (i := 465) (by decide +kernel) (by decide +kernel), zT_tb (i := 466) (by decide +kernel) (by decide +kernel), ⟨by decide +kernel, by decide +kernel, by decide +kernel⟩⟩
theorem mtX8_begin : zMv yX8_begin cX8_begin 2 (some .int) 0 := ⟨zT_tb (i := 471) (by decide +kernel) (by decide +kernel), zT_tb (i := 1) (by decide +kernel) (by decide +kernel), zT_tb (i := 469) (by decide +kernel) (by decide +kernel), zT_tb (i := 470) (by decide +kernel) (by decide +kernel), ⟨by decide +kernel, by decide +kernel, by decide +kernel⟩⟩
theorem mtX0_beginAnew : zMv yX0_beginAnew cX0_beginAnew 1 none 0 := ⟨zT_tb (i := 475) (by decide +kernel) (by decide +kernel), zT_tb (i := 2) (by decide +kernel) (by decide +kernel), zT_tb (i := 473) (by decide +kernel) (by decide +kernel), zT_tb (i := 474) (by decide +kernel) (by decide +kernel), ⟨by decide +kernel, by decide +kernel, by decide +kernel⟩⟩
theorem mtX5_clear : zMv yX5_clear cX5_clear 1 none 0 := ⟨zT_tb (i := 479) (by decide +kernel) (by decide +kernel), zT_tb (i := 3) (by decide +kernel) (by decide +kernel), zT_tb (i := 477) (by decide +kernel) (by decide +kernel), zT_tb (i := 478) (by decide +kernel) (by decide +kernel), ⟨by decide +kernel, by decide +kernel, by decide +kernel⟩⟩
theorem mtX1_clear : zMv yX1_clear cX1_clear 1 none 0 := ⟨zT_tb (i := 484) (by decide +kernel) (by decide +kernel), zT_tb (i := 4) (by decide +kernel) (by decide +kernel), zT_tb (i := 482) (by decide +kernel) (by decide +kernel), zT_tb (i := 483) (by decide +kernel) (by decide +kernel), ⟨by decide +kernel, by decide +kernel, by decide +kernel⟩⟩
theorem mtX8_member : zMv yX8_member cX8_member 3 (some .int) 2 := ⟨zT_tb (i := 488) (by decide +kernel) (by decide +kernel), zT_tb (i := 1) (by decide +kernel) (by decide +kernel), zT_tb (i := 486) (by decide +kernel) (by decide +kernel), zT_tb (i := 487) (by decide +kernel) (by decide +kernel), ⟨by decide +kernel, by decide +kernel, by decide +kernel⟩⟩
theorem mtX1_heldBy : zMv yX1_heldBy cX1_heldBy 4 (some .int) 1 := ⟨zT_tb (i := 493) (by decide +kernel) (by decide +kernel), zT_tb (i := 4) (by decide +kernel) (by decide +kernel), zT_tb (i := 491) (by decide +kernel) (by decide +kernel), zT_tb (i := 492) (by decide +kernel) (by decide +kernel), ⟨by decide +kernel, by decide +kernel, by decide +kernel⟩⟩
theorem mtX0_groupKey : zMv yX0_groupKey cX0_groupKey 1 (some .int) 0 := ⟨zT_tb (i := 498) (by decide +kernel) (by decide +kernel), zT_tb (i := 2) (by decide +kernel) (by decide +kernel), zT_tb (i := 496) (by decide +kernel) (by decide +kernel), zT_tb (i := 497) (by decide +kernel) (by decide +kernel), ⟨by decide +kernel, by decide +kernel, by decide +kernel⟩⟩
theorem mtX8_node : zMv yX8_node cX8_node 4 (some .int) 2 := ⟨zT_tb (i := 504) (by decide +kernel) (by decide +kernel), zT_tb (i := 1) (by decide +kernel) (by decide +kernel), zT_tb (i := 502) (by decide +kernel) (by decide +kernel), zT_tb (i := 503) (by decide +kernel) (by decide +kernel), ⟨by decide +kernel, by decide +kernel, by decide +kernel⟩⟩
theorem mtX8_key : zMv yX8_key cX8_key 4 (some .int) 2 := ⟨zT_tb (i := 508) (by decide +kernel) (by decide +kernel), zT_tb (i := 1) (by decide +kernel) (by decide +kernel), zT_tb (i := 506) (by decide +kernel) (by decide +kernel), zT_tb (i := 507) (by decide +kernel) (by decide +kernel), ⟨by decide +kernel, by decide +kernel, by decide +kernel⟩⟩
theorem mtX8_letter : zMv yX8_letter cX8_letter 3 (some .int) 2 := ⟨zT_tb (i := 513) (by decide +kernel) (by decide +kernel), zT_tb (i := 1) (by decide +kernel) (by decide +kernel), zT_tb (i := 511) (by decide +kernel) (by decide +kernel), zT_tb (i := 512) (by decide +kernel) (by decide +kernel), ⟨by decide +kernel, by decide +kernel, by decide +kernel⟩⟩
theorem mtX2_known : zMv yX2_known cX2_known 2 (some .boolean) 1 := ⟨zT_tb (i := 517) (by decide +kernel) (by decide +kernel), zT_tb (i := 6) (by decide +kernel) (by decide +kernel), zT_tb (i := 515) (by decide +kernel) (by decide +kernel), zT_tb (i := 516) (by decide +kernel) (by decide +kernel), ⟨by decide +kernel, by decide +kernel, by decide +kernel⟩⟩
theorem mtX8_count : zMv yX8_count cX8_count 2 (some .int) 1 := ⟨zT_tb (i := 521) (by decide +kernel) (by decide +kernel), zT_tb (i := 1) (by decide +kernel) (by decide +kernel), zT_tb (i := 519) (by decide +kernel) (by decide +kernel), zT_tb (i := 520) (by decide +kernel) (by decide +kernel), ⟨by decide +kernel, by decide +kernel, by decide +kernel⟩⟩
theorem mtX5_all : zMv yX5_all cX5_all 1 (some .int) 0 := ⟨zT_tb (i := 525) (by decide +kernel) (by decide +kernel), zT_tb (i := 3) (by decide +kernel) (by decide +kernel), zT_tb (i := 523) (by decide +kernel) (by decide +kernel), zT_tb (i := 524) (by decide +kernel) (by decide +kernel), ⟨by decide +kernel, by decide +kernel, by decide +kernel⟩⟩
theorem mtX8_why : zMv yX8_why cX8_why 3 (some .int) 2 := ⟨zT_tb (i := 529) (by decide +kernel) (by decide +kernel), zT_tb (i := 1) (by decide +kernel) (by decide +kernel), zT_tb (i := 527) (by decide +kernel) (by decide +kernel), zT_tb (i := 528) (by decide +kernel) (by decide +kernel), ⟨by decide +kernel, by decide +kernel, by decide +kernel⟩⟩
theorem mtX0_whyShut : zMv yX0_whyShut cX0_whyShut 3 (some .int) 2 := ⟨zT_tb (i := 533) (by decide +kernel) (by decide +kernel), zT_tb (i := 2) (by decide +kernel) (by decide +kernel), zT_tb (i := 531) (by decide +kernel) (by decide +kernel), zT_tb (i := 532) (by decide +kernel) (by decide +kernel), ⟨by decide +kernel, by decide +kernel, by decide +kernel⟩⟩
theorem mtX1_batchOf : zMv yX1_batchOf cX1_batchOf 2 (some .int) 1 := ⟨zT_tb (i := 537) (by decide +kernel) (by decide +kernel), zT_tb (i := 4) (by decide +kernel) (by decide +kernel), zT_tb (i := 535) (by decide +kernel) (by decide +kernel), zT_tb (i := 536) (by decide +kernel) (by decide +kernel), ⟨by decide +kernel, by decide +kernel, by decide +kernel⟩⟩
theorem mtX8_opens : zMv yX8_opens cX8_opens 3 (some .int) 2 := ⟨zT_tb (i := 541) (by decide +kernel) (by decide +kernel), zT_tb (i := 1) (by decide +kernel) (by decide +kernel), zT_tb (i := 539) (by decide +kernel) (by decide +kernel), zT_tb (i := 540) (by decide +kernel) (by decide +kernel), ⟨by decide +kernel, by decide +kernel, by decide +kernel⟩⟩
theorem mtX4_take : zMv yX4_take cX4_take 4 none 2 := ⟨zT_tb (i := 546) (by decide +kernel) (by decide +kernel), zT_tb (i := 9) (by decide +kernel) (by decide +kernel), zT_tb (i := 544) (by decide +kernel) (by decide +kernel), zT_tb (i := 545) (by decide +kernel) (by decide +kernel), ⟨by decide +kernel, by decide +kernel, by decide +kernel⟩⟩
theorem mtX4_openAll : zMv yX4_openAll cX4_openAll 5 none 1 := ⟨zT_tb (i := 550) (by decide +kernel) (by decide +kernel), zT_tb (i := 9) (by decide +kernel) (by decide +kernel), zT_tb (i := 548) (by decide +kernel) (by decide +kernel), zT_tb (i := 549) (by decide +kernel) (by decide +kernel), ⟨by decide +kernel, by decide +kernel, by decide +kernel⟩⟩
theorem mtX4_open : zMv yX4_open cX4_open 5 (some .boolean) 2 := ⟨zT_tb (i := 554) (by decide +kernel) (by decide +kernel), zT_tb (i := 9) (by decide +kernel) (by decide +kernel), zT_tb (i := 552) (by decide +kernel) (by decide +kernel), zT_tb (i := 553) (by decide +kernel) (by decide +kernel), ⟨by decide +kernel, by decide +kernel, by decide +kernel⟩⟩
theorem mtX4_has : zMv yX4_has cX4_has 2 (some .boolean) 1 := ⟨zT_tb (i := 558) (by decide +kernel) (by decide +kernel), zT_tb (i := 9) (by decide +kernel) (by decide +kernel), zT_tb (i := 556) (by decide +kernel) (by decide +kernel), zT_tb (i := 557) (by decide +kernel) (by decide +kernel), ⟨by decide +kernel, by decide +kernel, by decide +kernel⟩⟩
theorem mtX4_lacks : zMv yX4_lacks cX4_lacks 2 (some .boolean) 1 := ⟨zT_tb (i := 562) (by decide +kernel) (by decide +kernel), zT_tb (i := 9) (by decide +kernel) (by decide +kernel), zT_tb (i := 561) (by decide +kernel) (by decide +kernel), zT_pr (i := 10) (by decide +kernel) (by decide +kernel), ⟨by decide +kernel, by decide +kernel, by decide +kernel⟩⟩
theorem mtX8_due : zMv yX8_due cX8_due 2 (some .int) 1 := ⟨zT_tb (i := 567) (by decide +kernel) (by decide +kernel), zT_tb (i := 1) (by decide +kernel) (by decide +kernel), zT_tb (i := 565) (by decide +kernel) (by decide +kernel), zT_tb (i := 566) (by decide +kernel) (by decide +kernel), ⟨by decide +kernel, by decide +kernel, by decide +kernel⟩⟩
theorem mtX5_lettersFor : zMv yX5_lettersFor cX5_lettersFor 4 (some .int) 1 := ⟨zT_tb (i := 573) (by decide +kernel) (by decide +kernel), zT_tb (i := 3) (by decide +kernel) (by decide +kernel), zT_tb (i := 571) (by decide +kernel) (by decide +kernel), zT_tb (i := 572) (by decide +kernel) (by decide +kernel), ⟨by decide +kernel, by decide +kernel, by decide +kernel⟩⟩
theorem mtX8_planSingles : zMv yX8_planSingles cX8_planSingles 3 (some .int) 0 := ⟨zT_tb (i := 578) (by decide +kernel) (by decide +kernel), zT_tb (i := 1) (by decide +kernel) (by decide +kernel), zT_tb (i := 577) (by decide +kernel) (by decide +kernel), zT_pr (i := 11) (by decide +kernel) (by decide +kernel), ⟨by decide +kernel, by decide +kernel, by decide +kernel⟩⟩
theorem mtX8_luck : zMv yX8_luck cX8_luck 8 (some .int) 3 := ⟨zT_tb (i := 582) (by decide +kernel) (by decide +kernel), zT_tb (i := 1) (by decide +kernel) (by decide +kernel), zT_tb (i := 580) (by decide +kernel) (by decide +kernel), zT_tb (i := 581) (by decide +kernel) (by decide +kernel), ⟨by decide +kernel, by decide +kernel, by decide +kernel⟩⟩
theorem mtX8_commonOfTen : zMs yX8_commonOfTen cX8_commonOfTen 2 (some .int) 1 := ⟨zT_tb (i := 585) (by decide +kernel) (by decide +kernel), zT_tb (i := 1) (by decide +kernel) (by decide +kernel), zT_tb (i := 584) (by decide +kernel) (by decide +kernel), ⟨by decide +kernel, by decide +kernel, by decide +kernel⟩⟩
theorem mtX0_lettersNeeded : zMv yX0_lettersNeeded cX0_lettersNeeded 5 (some .int) 1 := ⟨zT_tb (i := 589) (by decide +kernel) (by decide +kernel), zT_tb (i := 2) (by decide +kernel) (by decide +kernel), zT_tb (i := 587) (by decide +kernel) (by decide +kernel), zT_tb (i := 588) (by decide +kernel) (by decide +kernel), ⟨by decide +kernel, by decide +kernel, by decide +kernel⟩⟩
theorem mtX1_nodeOf : zMv yX1_nodeOf cX1_nodeOf 2 (some .int) 1 := ⟨zT_tb (i := 593) (by decide +kernel) (by decide +kernel), zT_tb (i := 4) (by decide +kernel) (by decide +kernel), zT_tb (i := 591) (by decide +kernel) (by decide +kernel), zT_tb (i := 592) (by decide +kernel) (by decide +kernel), ⟨by decide +kernel, by decide +kernel, by decide +kernel⟩⟩
theorem mtX8_type : zMv yX8_type cX8_type 2 (some .int) 1 := ⟨zT_tb (i := 597) (by decide +kernel) (by decide +kernel), zT_tb (i := 1) (by decide +kernel) (by decide +kernel), zT_tb (i := 595) (by decide +kernel) (by decide +kernel), zT_tb (i := 596) (by decide +kernel) (by decide +kernel), ⟨by decide +kernel, by decide +kernel, by decide +kernel⟩⟩
theorem mtX7_add : zMv yX7_add cX7_add 2 none 1 := ⟨zT_tb (i := 601) (by decide +kernel) (by decide +kernel), zT_tb (i := 8) (by decide +kernel) (by decide +kernel), zT_tb (i := 599) (by decide +kernel) (by decide +kernel), zT_tb (i := 600) (by decide +kernel) (by decide +kernel), ⟨by decide +kernel, by decide +kernel, by decide +kernel⟩⟩
theorem mtX8_read : zMv yX8_read cX8_read 3 (some .int) 0 := ⟨zT_tb (i := 605) (by decide +kernel) (by decide +kernel), zT_tb (i := 1) (by decide +kernel) (by decide +kernel), zT_tb (i := 603) (by decide +kernel) (by decide +kernel), zT_tb (i := 604) (by decide +kernel) (by decide +kernel), ⟨by decide +kernel, by decide +kernel, by decide +kernel⟩⟩
theorem mtX7_fault : zMv yX7_fault cX7_fault 5 (some .int) 0 := ⟨zT_tb (i := 609) (by decide +kernel) (by decide +kernel), zT_tb (i := 8) (by decide +kernel) (by decide +kernel), zT_tb (i := 607) (by decide +kernel) (by decide +kernel), zT_tb (i := 608) (by decide +kernel) (by decide +kernel), ⟨by decide +kernel, by decide +kernel, by decide +kernel⟩⟩
theorem mtX7_figure : zMs yX7_figure cX7_figure 1 (some .int) 1 := ⟨zT_tb (i := 612) (by decide +kernel) (by decide +kernel), zT_tb (i := 8) (by decide +kernel) (by decide +kernel), zT_tb (i := 611) (by decide +kernel) (by decide +kernel), ⟨by decide +kernel, by decide +kernel, by decide +kernel⟩⟩
theorem mtX7_startsEvent : zMs yX7_startsEvent cX7_startsEvent 1 (some .boolean) 1 := ⟨zT_tb (i := 615) (by decide +kernel) (by decide +kernel), zT_tb (i := 8) (by decide +kernel) (by decide +kernel), zT_tb (i := 614) (by decide +kernel) (by decide +kernel), ⟨by decide +kernel, by decide +kernel, by decide +kernel⟩⟩
theorem mtX8_doEvents : zMv yX8_doEvents cX8_doEvents 5 (some .int) 0 := ⟨zT_tb (i := 619) (by decide +kernel) (by decide +kernel), zT_tb (i := 1) (by decide +kernel) (by decide +kernel), zT_tb (i := 618) (by decide +kernel) (by decide +kernel), zT_pr (i := 12) (by decide +kernel) (by decide +kernel), ⟨by decide +kernel, by decide +kernel, by decide +kernel⟩⟩
theorem mtX8_doEvent : zMv yX8_doEvent cX8_doEvent 4 (some .boolean) 2 := ⟨zT_tb (i := 623) (by decide +kernel) (by decide +kernel), zT_tb (i := 1) (by decide +kernel) (by decide +kernel), zT_tb (i := 622) (by decide +kernel) (by decide +kernel), zT_pr (i := 13) (by decide +kernel) (by decide +kernel), ⟨by decide +kernel, by decide +kernel, by decide +kernel⟩⟩
theorem mtX0_tryBatch : zMv yX0_tryBatch cX0_tryBatch 1 (some .boolean) 0 := ⟨zT_tb (i := 627) (by decide +kernel) (by decide +kernel), zT_tb (i := 2) (by decide +kernel) (by decide +kernel), zT_tb (i := 625) (by decide +kernel) (by decide +kernel), zT_tb (i := 626) (by decide +kernel) (by decide +kernel), ⟨by decide +kernel, by decide +kernel, by decide +kernel⟩⟩
theorem mtX0_tryCome : zMv yX0_tryCome cX0_tryCome 2 (some .boolean) 1 := ⟨zT_tb (i := 634) (by decide +kernel) (by decide +kernel), zT_tb (i := 2) (by decide +kernel) (by decide +kernel), zT_tb (i := 632) (by decide +kernel) (by decide +kernel), zT_tb (i := 633) (by decide +kernel) (by decide +kernel), ⟨by decide +kernel, by decide +kernel, by decide +kernel⟩⟩
theorem mtX0_tryLeave : zMv yX0_tryLeave cX0_tryLeave 2 (some .boolean) 1 := ⟨zT_tb (i := 640) (by decide +kernel) (by decide +kernel), zT_tb (i := 2) (by decide +kernel) (by decide +kernel), zT_tb (i := 638) (by decide +kernel) (by decide +kernel), zT_tb (i := 639) (by decide +kernel) (by decide +kernel), ⟨by decide +kernel, by decide +kernel, by decide +kernel⟩⟩
theorem mtX8_drift : zMv yX8_drift cX8_drift 3 (some .int) 1 := ⟨zT_tb (i := 646) (by decide +kernel) (by decide +kernel), zT_tb (i := 1) (by decide +kernel) (by decide +kernel), zT_tb (i := 644) (by decide +kernel) (by decide +kernel), zT_tb (i := 645) (by decide +kernel) (by decide +kernel), ⟨by decide +kernel, by decide +kernel, by decide +kernel⟩⟩
theorem mtX8_driftOnce : zMv yX8_driftOnce cX8_driftOnce 3 none 0 := ⟨zT_tb (i := 650) (by decide +kernel) (by decide +kernel), zT_tb (i := 1) (by decide +kernel) (by decide +kernel), zT_tb (i := 649) (by decide +kernel) (by decide +kernel), zT_pr (i := 14) (by decide +kernel) (by decide +kernel), ⟨by decide +kernel, by decide +kernel, by decide +kernel⟩⟩
theorem mtX8_undo : zMv yX8_undo cX8_undo 1 (some .int) 0 := ⟨zT_tb (i := 656) (by decide +kernel) (by decide +kernel), zT_tb (i := 1) (by decide +kernel) (by decide +kernel), zT_tb (i := 654) (by decide +kernel) (by decide +kernel), zT_tb (i := 655) (by decide +kernel) (by decide +kernel), ⟨by decide +kernel, by decide +kernel, by decide +kernel⟩⟩
theorem mtX3_goBack : zMv yX3_goBack cX3_goBack 2 none 1 := ⟨zT_tb (i := 660) (by decide +kernel) (by decide +kernel), zT_tb (i := 7) (by decide +kernel) (by decide +kernel), zT_tb (i := 658) (by decide +kernel) (by decide +kernel), zT_tb (i := 659) (by decide +kernel) (by decide +kernel), ⟨by decide +kernel, by decide +kernel, by decide +kernel⟩⟩
theorem mtX8_seed : zMv yX8_seed cX8_seed 3 (some .int) 1 := ⟨zT_tb (i := 664) (by decide +kernel) (by decide +kernel), zT_tb (i := 1) (by decide +kernel) (by decide +kernel), zT_tb (i := 662) (by decide +kernel) (by decide +kernel), zT_tb (i := 663) (by decide +kernel) (by decide +kernel), ⟨by decide +kernel, by decide +kernel, by decide +kernel⟩⟩
theorem mtX8_image : zMv yX8_image cX8_image 1 (some .int) 0 := ⟨zT_tb (i := 668) (by decide +kernel) (by decide +kernel), zT_tb (i := 1) (by decide +kernel) (by decide +kernel), zT_tb (i := 666) (by decide +kernel) (by decide +kernel), zT_tb (i := 667) (by decide +kernel) (by decide +kernel), ⟨by decide +kernel, by decide +kernel, by decide +kernel⟩⟩
theorem mtX3_take : zMv yX3_take cX3_take 3 none 1 := ⟨zT_tb (i := 673) (by decide +kernel) (by decide +kernel), zT_tb (i := 7) (by decide +kernel) (by decide +kernel), zT_tb (i := 671) (by decide +kernel) (by decide +kernel), zT_tb (i := 672) (by decide +kernel) (by decide +kernel), ⟨by decide +kernel, by decide +kernel, by decide +kernel⟩⟩
theorem mtX8_restore : zMv yX8_restore cX8_restore 1 (some .int) 0 := ⟨zT_tb (i := 677) (by decide +kernel) (by decide +kernel), zT_tb (i := 1) (by decide +kernel) (by decide +kernel), zT_tb (i := 675) (by decide +kernel) (by decide +kernel), zT_tb (i := 676) (by decide +kernel) (by decide +kernel), ⟨by decide +kernel, by decide +kernel, by decide +kernel⟩⟩
theorem mtX8_got : zMv yX8_got cX8_got 10 (some .int) 5 := ⟨zT_tb (i := 681) (by decide +kernel) (by decide +kernel), zT_tb (i := 1) (by decide +kernel) (by decide +kernel), zT_tb (i := 679) (by decide +kernel) (by decide +kernel), zT_tb (i := 680) (by decide +kernel) (by decide +kernel), ⟨by decide +kernel, by decide +kernel, by decide +kernel⟩⟩
theorem mtX8_noSheet : zMs yX8_noSheet cX8_noSheet 1 (some .boolean) 1 := ⟨zT_tb (i := 684) (by decide +kernel) (by decide +kernel), zT_tb (i := 1) (by decide +kernel) (by decide +kernel), zT_tb (i := 683) (by decide +kernel) (by decide +kernel), ⟨by decide +kernel, by decide +kernel, by decide +kernel⟩⟩
theorem mtX8_noLane : zMs yX8_noLane cX8_noLane 1 (some .boolean) 1 := ⟨zT_tb (i := 687) (by decide +kernel) (by decide +kernel), zT_tb (i := 1) (by decide +kernel) (by decide +kernel), zT_tb (i := 686) (by decide +kernel) (by decide +kernel), ⟨by decide +kernel, by decide +kernel, by decide +kernel⟩⟩
theorem mtX6_refusal : zMv yX6_refusal cX6_refusal 4 (some .int) 3 := ⟨zT_tb (i := 691) (by decide +kernel) (by decide +kernel), zT_tb (i := 10) (by decide +kernel) (by decide +kernel), zT_tb (i := 689) (by decide +kernel) (by decide +kernel), zT_tb (i := 690) (by decide +kernel) (by decide +kernel), ⟨by decide +kernel, by decide +kernel, by decide +kernel⟩⟩
theorem mtX6_lacks : zMv yX6_lacks cX6_lacks 3 (some .boolean) 2 := ⟨zT_tb (i := 695) (by decide +kernel) (by decide +kernel), zT_tb (i := 10) (by decide +kernel) (by decide +kernel), zT_tb (i := 693) (by decide +kernel) (by decide +kernel), zT_tb (i := 694) (by decide +kernel) (by decide +kernel), ⟨by decide +kernel, by decide +kernel, by decide +kernel⟩⟩
theorem mtX8_toldLetters : zMv yX8_toldLetters cX8_toldLetters 7 (some .boolean) 3 := ⟨zT_tb (i := 699) (by decide +kernel) (by decide +kernel), zT_tb (i := 1) (by decide +kernel) (by decide +kernel), zT_tb (i := 698) (by decide +kernel) (by decide +kernel), zT_pr (i := 15) (by decide +kernel) (by decide +kernel), ⟨by decide +kernel, by decide +kernel, by decide +kernel⟩⟩
theorem mtX8_film : zMv yX8_film cX8_film 9 (some .int) 4 := ⟨zT_tb (i := 704) (by decide +kernel) (by decide +kernel), zT_tb (i := 1) (by decide +kernel) (by decide +kernel), zT_tb (i := 702) (by decide +kernel) (by decide +kernel), zT_tb (i := 703) (by decide +kernel) (by decide +kernel), ⟨by decide +kernel, by decide +kernel, by decide +kernel⟩⟩
theorem mtX6_put : zMv yX6_put cX6_put 4 none 2 := ⟨zT_tb (i := 708) (by decide +kernel) (by decide +kernel), zT_tb (i := 10) (by decide +kernel) (by decide +kernel), zT_tb (i := 706) (by decide +kernel) (by decide +kernel), zT_tb (i := 707) (by decide +kernel) (by decide +kernel), ⟨by decide +kernel, by decide +kernel, by decide +kernel⟩⟩
theorem mtX8_sheet : zMv yX8_sheet cX8_sheet 4 (some .int) 3 := ⟨zT_tb (i := 712) (by decide +kernel) (by decide +kernel), zT_tb (i := 1) (by decide +kernel) (by decide +kernel), zT_tb (i := 710) (by decide +kernel) (by decide +kernel), zT_tb (i := 711) (by decide +kernel) (by decide +kernel), ⟨by decide +kernel, by decide +kernel, by decide +kernel⟩⟩
theorem mtX6_renew : zMv yX6_renew cX6_renew 3 none 2 := ⟨zT_tb (i := 716) (by decide +kernel) (by decide +kernel), zT_tb (i := 10) (by decide +kernel) (by decide +kernel), zT_tb (i := 714) (by decide +kernel) (by decide +kernel), zT_tb (i := 715) (by decide +kernel) (by decide +kernel), ⟨by decide +kernel, by decide +kernel, by decide +kernel⟩⟩
theorem mtJ7_fill_d0a16 : zMs yJ7_fill_d0a16 cJ7_fill_d0a16 5 none 2 := ⟨zT_tb (i := 719) (by decide +kernel) (by decide +kernel), zT_tb (i := 5) (by decide +kernel) (by decide +kernel), zT_tb (i := 718) (by decide +kernel) (by decide +kernel), ⟨by decide +kernel, by decide +kernel, by decide +kernel⟩⟩
theorem mtX8_drop : zMv yX8_drop cX8_drop 4 (some .int) 1 := ⟨zT_tb (i := 723) (by decide +kernel) (by decide +kernel), zT_tb (i := 1) (by decide +kernel) (by decide +kernel), zT_tb (i := 721) (by decide +kernel) (by decide +kernel), zT_tb (i := 722) (by decide +kernel) (by decide +kernel), ⟨by decide +kernel, by decide +kernel, by decide +kernel⟩⟩
theorem mtX8_item : zMv yX8_item cX8_item 8 (some .int) 4 := ⟨zT_tb (i := 727) (by decide +kernel) (by decide +kernel), zT_tb (i := 1) (by decide +kernel) (by decide +kernel), zT_tb (i := 725) (by decide +kernel) (by decide +kernel), zT_tb (i := 726) (by decide +kernel) (by decide +kernel), ⟨by decide +kernel, by decide +kernel, by decide +kernel⟩⟩
theorem mtX8_copy : zMv yX8_copy cX8_copy 8 (some .int) 5 := ⟨zT_tb (i := 731) (by decide +kernel) (by decide +kernel), zT_tb (i := 1) (by decide +kernel) (by decide +kernel), zT_tb (i := 729) (by decide +kernel) (by decide +kernel), zT_tb (i := 730) (by decide +kernel) (by decide +kernel), ⟨by decide +kernel, by decide +kernel, by decide +kernel⟩⟩
theorem mtX9_init : zMi yX9_init cX9_init 2 0 := ⟨zT_tb (i := 738) (by decide +kernel) (by decide +kernel), zT_tb (i := 11) (by decide +kernel) (by decide +kernel), zT_tb (i := 737) (by decide +kernel) (by decide +kernel), by decide +kernel, ⟨by decide +kernel, by decide +kernel, by decide +kernel⟩⟩
theorem mtX9_come : zMv yX9_come cX9_come 2 (some .int) 1 := ⟨zT_tb (i := 801) (by decide +kernel) (by decide +kernel), zT_tb (i := 11) (by decide +kernel) (by decide +kernel), zT_tb (i := 799) (by decide +kernel) (by decide +kernel), zT_tb (i := 800) (by decide +kernel) (by decide +kernel), ⟨by decide +kernel, by decide +kernel, by decide +kernel⟩⟩
theorem mtX9_isMember : zMs yX9_isMember cX9_isMember 1 (some .boolean) 1 := ⟨zT_tb (i := 804) (by decide +kernel) (by decide +kernel), zT_tb (i := 11) (by decide +kernel) (by decide +kernel), zT_tb (i := 803) (by decide +kernel) (by decide +kernel), ⟨by decide +kernel, by decide +kernel, by decide +kernel⟩⟩
theorem mtX9_in : zMs yX9_in cX9_in 6 (some .boolean) 3 := ⟨zT_tb (i := 808) (by decide +kernel) (by decide +kernel), zT_tb (i := 11) (by decide +kernel) (by decide +kernel), zT_tb (i := 807) (by decide +kernel) (by decide +kernel), ⟨by decide +kernel, by decide +kernel, by decide +kernel⟩⟩
theorem mtX9_sits : zMv yX9_sits cX9_sits 2 (some .boolean) 1 := ⟨zT_tb (i := 812) (by decide +kernel) (by decide +kernel), zT_tb (i := 11) (by decide +kernel) (by decide +kernel), zT_tb (i := 811) (by decide +kernel) (by decide +kernel), zT_pr (i := 16) (by decide +kernel) (by decide +kernel), ⟨by decide +kernel, by decide +kernel, by decide +kernel⟩⟩
theorem mtX9_of : zMv yX9_of cX9_of 3 (some .int) 2 := ⟨zT_tb (i := 816) (by decide +kernel) (by decide +kernel), zT_tb (i := 11) (by decide +kernel) (by decide +kernel), zT_tb (i := 815) (by decide +kernel) (by decide +kernel), zT_pr (i := 17) (by decide +kernel) (by decide +kernel), ⟨by decide +kernel, by decide +kernel, by decide +kernel⟩⟩
theorem mtX9_notes : zMv yX9_notes cX9_notes 2 none 0 := ⟨zT_tb (i := 820) (by decide +kernel) (by decide +kernel), zT_tb (i := 11) (by decide +kernel) (by decide +kernel), zT_tb (i := 819) (by decide +kernel) (by decide +kernel), zT_pr (i := 18) (by decide +kernel) (by decide +kernel), ⟨by decide +kernel, by decide +kernel, by decide +kernel⟩⟩
theorem mtX9_put : zMv yX9_put cX9_put 4 none 3 := ⟨zT_tb (i := 824) (by decide +kernel) (by decide +kernel), zT_tb (i := 11) (by decide +kernel) (by decide +kernel), zT_tb (i := 823) (by decide +kernel) (by decide +kernel), zT_pr (i := 19) (by decide +kernel) (by decide +kernel), ⟨by decide +kernel, by decide +kernel, by decide +kernel⟩⟩
theorem mtX9_those : zMv yX9_those cX9_those 6 (some .int) 2 := ⟨zT_tb (i := 828) (by decide +kernel) (by decide +kernel), zT_tb (i := 11) (by decide +kernel) (by decide +kernel), zT_tb (i := 827) (by decide +kernel) (by decide +kernel), zT_pr (i := 20) (by decide +kernel) (by decide +kernel), ⟨by decide +kernel, by decide +kernel, by decide +kernel⟩⟩
theorem mtX9_bits : zMs yX9_bits cX9_bits 3 (some .int) 1 := ⟨zT_tb (i := 831) (by decide +kernel) (by decide +kernel), zT_tb (i := 11) (by decide +kernel) (by decide +kernel), zT_tb (i := 830) (by decide +kernel) (by decide +kernel), ⟨by decide +kernel, by decide +kernel, by decide +kernel⟩⟩
theorem mtX9_leave : zMv yX9_leave cX9_leave 2 (some .int) 1 := ⟨zT_tb (i := 835) (by decide +kernel) (by decide +kernel), zT_tb (i := 11) (by decide +kernel) (by decide +kernel), zT_tb (i := 833) (by decide +kernel) (by decide +kernel), zT_tb (i := 834) (by decide +kernel) (by decide +kernel), ⟨by decide +kernel, by decide +kernel, by decide +kernel⟩⟩
theorem mtX9_batch : zMv yX9_batch cX9_batch 2 (some .int) 0 := ⟨zT_tb (i := 839) (by decide +kernel) (by decide +kernel), zT_tb (i := 11) (by decide +kernel) (by decide +kernel), zT_tb (i := 837) (by decide +kernel) (by decide +kernel), zT_tb (i := 838) (by decide +kernel) (by decide +kernel), ⟨by decide +kernel, by decide +kernel, by decide +kernel⟩⟩
theorem mtX9_refusal : zMv yX9_refusal cX9_refusal 1 (some .int) 0 := ⟨zT_tb (i := 843) (by decide +kernel) (by decide +kernel), zT_tb (i := 11) (by decide +kernel) (by decide +kernel), zT_tb (i := 842) (by decide +kernel) (by decide +kernel), zT_pr (i := 21) (by decide +kernel) (by decide +kernel), ⟨by decide +kernel, by decide +kernel, by decide +kernel⟩⟩
theorem mtX9_isFull : zMv yX9_isFull cX9_isFull 1 (some .boolean) 0 := ⟨zT_tb (i := 847) (by decide +kernel) (by decide +kernel), zT_tb (i := 11) (by decide +kernel) (by decide +kernel), zT_tb (i := 846) (by decide +kernel) (by decide +kernel), zT_pr (i := 22) (by decide +kernel) (by decide +kernel), ⟨by decide +kernel, by decide +kernel, by decide +kernel⟩⟩
theorem mtX9_batches : zMv yX9_batches cX9_batches 6 (some .int) 0 := ⟨zT_tb (i := 851) (by decide +kernel) (by decide +kernel), zT_tb (i := 11) (by decide +kernel) (by decide +kernel), zT_tb (i := 850) (by decide +kernel) (by decide +kernel), zT_pr (i := 23) (by decide +kernel) (by decide +kernel), ⟨by decide +kernel, by decide +kernel, by decide +kernel⟩⟩
theorem mtX9_takesSeats : zMv yX9_takesSeats cX9_takesSeats 2 none 0 := ⟨zT_tb (i := 855) (by decide +kernel) (by decide +kernel), zT_tb (i := 11) (by decide +kernel) (by decide +kernel), zT_tb (i := 854) (by decide +kernel) (by decide +kernel), zT_pr (i := 24) (by decide +kernel) (by decide +kernel), ⟨by decide +kernel, by decide +kernel, by decide +kernel⟩⟩
theorem mtX9_shifts : zMv yX9_shifts cX9_shifts 4 none 2 := ⟨zT_tb (i := 859) (by decide +kernel) (by decide +kernel), zT_tb (i := 11) (by decide +kernel) (by decide +kernel), zT_tb (i := 858) (by decide +kernel) (by decide +kernel), zT_pr (i := 25) (by decide +kernel) (by decide +kernel), ⟨by decide +kernel, by decide +kernel, by decide +kernel⟩⟩
theorem mtX9_has : zMs yX9_has cX9_has 2 (some .boolean) 2 := ⟨zT_tb (i := 862) (by decide +kernel) (by decide +kernel), zT_tb (i := 11) (by decide +kernel) (by decide +kernel), zT_tb (i := 861) (by decide +kernel) (by decide +kernel), ⟨by decide +kernel, by decide +kernel, by decide +kernel⟩⟩
theorem mtX9_marks : zMv yX9_marks cX9_marks 3 none 1 := ⟨zT_tb (i := 866) (by decide +kernel) (by decide +kernel), zT_tb (i := 11) (by decide +kernel) (by decide +kernel), zT_tb (i := 865) (by decide +kernel) (by decide +kernel), zT_pr (i := 26) (by decide +kernel) (by decide +kernel), ⟨by decide +kernel, by decide +kernel, by decide +kernel⟩⟩
theorem mtX9_leafFor : zMv yX9_leafFor cX9_leafFor 2 (some .int) 0 := ⟨zT_tb (i := 870) (by decide +kernel) (by decide +kernel), zT_tb (i := 11) (by decide +kernel) (by decide +kernel), zT_tb (i := 869) (by decide +kernel) (by decide +kernel), zT_pr (i := 27) (by decide +kernel) (by decide +kernel), ⟨by decide +kernel, by decide +kernel, by decide +kernel⟩⟩
theorem mtX9_seated : zMv yX9_seated cX9_seated 4 (some .int) 1 := ⟨zT_tb (i := 874) (by decide +kernel) (by decide +kernel), zT_tb (i := 11) (by decide +kernel) (by decide +kernel), zT_tb (i := 873) (by decide +kernel) (by decide +kernel), zT_pr (i := 28) (by decide +kernel) (by decide +kernel), ⟨by decide +kernel, by decide +kernel, by decide +kernel⟩⟩
theorem mtX9_isBeneath : zMs yX9_isBeneath cX9_isBeneath 4 (some .boolean) 2 := ⟨zT_tb (i := 877) (by decide +kernel) (by decide +kernel), zT_tb (i := 11) (by decide +kernel) (by decide +kernel), zT_tb (i := 876) (by decide +kernel) (by decide +kernel), ⟨by decide +kernel, by decide +kernel, by decide +kernel⟩⟩
theorem mtX9_beneath : zMv yX9_beneath cX9_beneath 4 (some .int) 1 := ⟨zT_tb (i := 881) (by decide +kernel) (by decide +kernel), zT_tb (i := 11) (by decide +kernel) (by decide +kernel), zT_tb (i := 880) (by decide +kernel) (by decide +kernel), zT_pr (i := 29) (by decide +kernel) (by decide +kernel), ⟨by decide +kernel, by decide +kernel, by decide +kernel⟩⟩
theorem mtX9_makes : zMv yX9_makes cX9_makes 3 (some .int) 1 := ⟨zT_tb (i := 885) (by decide +kernel) (by decide +kernel), zT_tb (i := 11) (by decide +kernel) (by decide +kernel), zT_tb (i := 884) (by decide +kernel) (by decide +kernel), zT_pr (i := 30) (by decide +kernel) (by decide +kernel), ⟨by decide +kernel, by decide +kernel, by decide +kernel⟩⟩
theorem mtX9_keyOf : zMv yX9_keyOf cX9_keyOf 4 (some .int) 1 := ⟨zT_tb (i := 889) (by decide +kernel) (by decide +kernel), zT_tb (i := 11) (by decide +kernel) (by decide +kernel), zT_tb (i := 888) (by decide +kernel) (by decide +kernel), zT_pr (i := 31) (by decide +kernel) (by decide +kernel), ⟨by decide +kernel, by decide +kernel, by decide +kernel⟩⟩
theorem mtX9_nodeOf : zMv yX9_nodeOf cX9_nodeOf 2 (some .int) 1 := ⟨zT_tb (i := 893) (by decide +kernel) (by decide +kernel), zT_tb (i := 11) (by decide +kernel) (by decide +kernel), zT_tb (i := 892) (by decide +kernel) (by decide +kernel), zT_pr (i := 32) (by decide +kernel) (by decide +kernel), ⟨by decide +kernel, by decide +kernel, by decide +kernel⟩⟩
theorem mtX9_writes : zMv yX9_writes cX9_writes 4 none 3 := ⟨zT_tb (i := 897) (by decide +kernel) (by decide +kernel), zT_tb (i := 11) (by decide +kernel) (by decide +kernel), zT_tb (i := 896) (by decide +kernel) (by decide +kernel), zT_pr (i := 33) (by decide +kernel) (by decide +kernel), ⟨by decide +kernel, by decide +kernel, by decide +kernel⟩⟩
theorem mtX9_readAll : zMv yX9_readAll cX9_readAll 2 none 0 := ⟨zT_tb (i := 902) (by decide +kernel) (by decide +kernel), zT_tb (i := 11) (by decide +kernel) (by decide +kernel), zT_tb (i := 901) (by decide +kernel) (by decide +kernel), zT_pr (i := 34) (by decide +kernel) (by decide +kernel), ⟨by decide +kernel, by decide +kernel, by decide +kernel⟩⟩
theorem mtX9_reads : zMv yX9_reads cX9_reads 4 (some .int) 1 := ⟨zT_tb (i := 906) (by decide +kernel) (by decide +kernel), zT_tb (i := 11) (by decide +kernel) (by decide +kernel), zT_tb (i := 905) (by decide +kernel) (by decide +kernel), zT_pr (i := 35) (by decide +kernel) (by decide +kernel), ⟨by decide +kernel, by decide +kernel, by decide +kernel⟩⟩
theorem mtX9_underOf : zMv yX9_underOf cX9_underOf 2 (some .int) 1 := ⟨zT_tb (i := 910) (by decide +kernel) (by decide +kernel), zT_tb (i := 11) (by decide +kernel) (by decide +kernel), zT_tb (i := 909) (by decide +kernel) (by decide +kernel), zT_pr (i := 36) (by decide +kernel) (by decide +kernel), ⟨by decide +kernel, by decide +kernel, by decide +kernel⟩⟩
theorem mtX9_holds : zMv yX9_holds cX9_holds 3 (some .boolean) 2 := ⟨zT_tb (i := 914) (by decide +kernel) (by decide +kernel), zT_tb (i := 11) (by decide +kernel) (by decide +kernel), zT_tb (i := 913) (by decide +kernel) (by decide +kernel), zT_pr (i := 37) (by decide +kernel) (by decide +kernel), ⟨by decide +kernel, by decide +kernel, by decide +kernel⟩⟩
theorem mtX9_inOf : zMv yX9_inOf cX9_inOf 2 (some .int) 1 := ⟨zT_tb (i := 918) (by decide +kernel) (by decide +kernel), zT_tb (i := 11) (by decide +kernel) (by decide +kernel), zT_tb (i := 917) (by decide +kernel) (by decide +kernel), zT_pr (i := 38) (by decide +kernel) (by decide +kernel), ⟨by decide +kernel, by decide +kernel, by decide +kernel⟩⟩
theorem mtX9_late : zMv yX9_late cX9_late 3 (some .int) 2 := ⟨zT_tb (i := 922) (by decide +kernel) (by decide +kernel), zT_tb (i := 11) (by decide +kernel) (by decide +kernel), zT_tb (i := 920) (by decide +kernel) (by decide +kernel), zT_tb (i := 921) (by decide +kernel) (by decide +kernel), ⟨by decide +kernel, by decide +kernel, by decide +kernel⟩⟩
theorem mtX9_lose : zMv yX9_lose cX9_lose 5 (some .int) 2 := ⟨zT_tb (i := 926) (by decide +kernel) (by decide +kernel), zT_tb (i := 11) (by decide +kernel) (by decide +kernel), zT_tb (i := 924) (by decide +kernel) (by decide +kernel), zT_tb (i := 925) (by decide +kernel) (by decide +kernel), ⟨by decide +kernel, by decide +kernel, by decide +kernel⟩⟩
theorem mtX9_mend : zMv yX9_mend cX9_mend 3 (some .int) 1 := ⟨zT_tb (i := 931) (by decide +kernel) (by decide +kernel), zT_tb (i := 11) (by decide +kernel) (by decide +kernel), zT_tb (i := 929) (by decide +kernel) (by decide +kernel), zT_tb (i := 930) (by decide +kernel) (by decide +kernel), ⟨by decide +kernel, by decide +kernel, by decide +kernel⟩⟩
theorem mtX9_mendRefusal : zMv yX9_mendRefusal cX9_mendRefusal 2 (some .int) 1 := ⟨zT_tb (i := 935) (by decide +kernel) (by decide +kernel), zT_tb (i := 11) (by decide +kernel) (by decide +kernel), zT_tb (i := 934) (by decide +kernel) (by decide +kernel), zT_pr (i := 39) (by decide +kernel) (by decide +kernel), ⟨by decide +kernel, by decide +kernel, by decide +kernel⟩⟩
theorem mtX9_lacks : zMv yX9_lacks cX9_lacks 4 (some .int) 1 := ⟨zT_tb (i := 939) (by decide +kernel) (by decide +kernel), zT_tb (i := 11) (by decide +kernel) (by decide +kernel), zT_tb (i := 938) (by decide +kernel) (by decide +kernel), zT_pr (i := 40) (by decide +kernel) (by decide +kernel), ⟨by decide +kernel, by decide +kernel, by decide +kernel⟩⟩
theorem mtX9_mends : zMv yX9_mends cX9_mends 4 (some .int) 1 := ⟨zT_tb (i := 943) (by decide +kernel) (by decide +kernel), zT_tb (i := 11) (by decide +kernel) (by decide +kernel), zT_tb (i := 942) (by decide +kernel) (by decide +kernel), zT_pr (i := 41) (by decide +kernel) (by decide +kernel), ⟨by decide +kernel, by decide +kernel, by decide +kernel⟩⟩
theorem mtX9_begin : zMv yX9_begin cX9_begin 3 (some .int) 0 := ⟨zT_tb (i := 947) (by decide +kernel) (by decide +kernel), zT_tb (i := 11) (by decide +kernel) (by decide +kernel), zT_tb (i := 945) (by decide +kernel) (by decide +kernel), zT_tb (i := 946) (by decide +kernel) (by decide +kernel), ⟨by decide +kernel, by decide +kernel, by decide +kernel⟩⟩
theorem mtX9_count : zMv yX9_count cX9_count 2 (some .int) 1 := ⟨zT_tb (i := 951) (by decide +kernel) (by decide +kernel), zT_tb (i := 11) (by decide +kernel) (by decide +kernel), zT_tb (i := 949) (by decide +kernel) (by decide +kernel), zT_tb (i := 950) (by decide +kernel) (by decide +kernel), ⟨by decide +kernel, by decide +kernel, by decide +kernel⟩⟩
theorem mtX9_lacking : zMv yX9_lacking cX9_lacking 2 (some .int) 0 := ⟨zT_tb (i := 955) (by decide +kernel) (by decide +kernel), zT_tb (i := 11) (by decide +kernel) (by decide +kernel), zT_tb (i := 954) (by decide +kernel) (by decide +kernel), zT_pr (i := 42) (by decide +kernel) (by decide +kernel), ⟨by decide +kernel, by decide +kernel, by decide +kernel⟩⟩
theorem mtX9_member : zMv yX9_member cX9_member 4 (some .int) 2 := ⟨zT_tb (i := 959) (by decide +kernel) (by decide +kernel), zT_tb (i := 11) (by decide +kernel) (by decide +kernel), zT_tb (i := 957) (by decide +kernel) (by decide +kernel), zT_tb (i := 958) (by decide +kernel) (by decide +kernel), ⟨by decide +kernel, by decide +kernel, by decide +kernel⟩⟩
theorem mtX9_held : zMv yX9_held cX9_held 4 (some .int) 1 := ⟨zT_tb (i := 963) (by decide +kernel) (by decide +kernel), zT_tb (i := 11) (by decide +kernel) (by decide +kernel), zT_tb (i := 962) (by decide +kernel) (by decide +kernel), zT_pr (i := 43) (by decide +kernel) (by decide +kernel), ⟨by decide +kernel, by decide +kernel, by decide +kernel⟩⟩
theorem mtX9_node : zMv yX9_node cX9_node 4 (some .int) 2 := ⟨zT_tb (i := 967) (by decide +kernel) (by decide +kernel), zT_tb (i := 11) (by decide +kernel) (by decide +kernel), zT_tb (i := 965) (by decide +kernel) (by decide +kernel), zT_tb (i := 966) (by decide +kernel) (by decide +kernel), ⟨by decide +kernel, by decide +kernel, by decide +kernel⟩⟩
theorem mtX9_key : zMv yX9_key cX9_key 3 (some .int) 2 := ⟨zT_tb (i := 972) (by decide +kernel) (by decide +kernel), zT_tb (i := 11) (by decide +kernel) (by decide +kernel), zT_tb (i := 970) (by decide +kernel) (by decide +kernel), zT_tb (i := 971) (by decide +kernel) (by decide +kernel), ⟨by decide +kernel, by decide +kernel, by decide +kernel⟩⟩
theorem mtX9_isKey : zMv yX9_isKey cX9_isKey 2 (some .boolean) 1 := ⟨zT_tb (i := 976) (by decide +kernel) (by decide +kernel), zT_tb (i := 11) (by decide +kernel) (by decide +kernel), zT_tb (i := 975) (by decide +kernel) (by decide +kernel), zT_pr (i := 44) (by decide +kernel) (by decide +kernel), ⟨by decide +kernel, by decide +kernel, by decide +kernel⟩⟩
theorem mtX9_batchOf : zMv yX9_batchOf cX9_batchOf 2 (some .int) 1 := ⟨zT_tb (i := 980) (by decide +kernel) (by decide +kernel), zT_tb (i := 11) (by decide +kernel) (by decide +kernel), zT_tb (i := 979) (by decide +kernel) (by decide +kernel), zT_pr (i := 45) (by decide +kernel) (by decide +kernel), ⟨by decide +kernel, by decide +kernel, by decide +kernel⟩⟩
theorem mtX9_letter : zMv yX9_letter cX9_letter 3 (some .int) 2 := ⟨zT_tb (i := 984) (by decide +kernel) (by decide +kernel), zT_tb (i := 11) (by decide +kernel) (by decide +kernel), zT_tb (i := 982) (by decide +kernel) (by decide +kernel), zT_tb (i := 983) (by decide +kernel) (by decide +kernel), ⟨by decide +kernel, by decide +kernel, by decide +kernel⟩⟩
theorem mtX9_isLetter : zMv yX9_isLetter cX9_isLetter 3 (some .boolean) 1 := ⟨zT_tb (i := 988) (by decide +kernel) (by decide +kernel), zT_tb (i := 11) (by decide +kernel) (by decide +kernel), zT_tb (i := 987) (by decide +kernel) (by decide +kernel), zT_pr (i := 46) (by decide +kernel) (by decide +kernel), ⟨by decide +kernel, by decide +kernel, by decide +kernel⟩⟩
theorem mtX9_batchOfLetter : zMv yX9_batchOfLetter cX9_batchOfLetter 2 (some .int) 1 := ⟨zT_tb (i := 992) (by decide +kernel) (by decide +kernel), zT_tb (i := 11) (by decide +kernel) (by decide +kernel), zT_tb (i := 991) (by decide +kernel) (by decide +kernel), zT_pr (i := 47) (by decide +kernel) (by decide +kernel), ⟨by decide +kernel, by decide +kernel, by decide +kernel⟩⟩
theorem mtX9_why : zMv yX9_why cX9_why 4 (some .int) 2 := ⟨zT_tb (i := 996) (by decide +kernel) (by decide +kernel), zT_tb (i := 11) (by decide +kernel) (by decide +kernel), zT_tb (i := 994) (by decide +kernel) (by decide +kernel), zT_tb (i := 995) (by decide +kernel) (by decide +kernel), ⟨by decide +kernel, by decide +kernel, by decide +kernel⟩⟩
theorem mtX9_opens : zMv yX9_opens cX9_opens 3 (some .int) 2 := ⟨zT_tb (i := 1000) (by decide +kernel) (by decide +kernel), zT_tb (i := 11) (by decide +kernel) (by decide +kernel), zT_tb (i := 998) (by decide +kernel) (by decide +kernel), zT_tb (i := 999) (by decide +kernel) (by decide +kernel), ⟨by decide +kernel, by decide +kernel, by decide +kernel⟩⟩
theorem mtX9_opensAll : zMv yX9_opensAll cX9_opensAll 6 none 1 := ⟨zT_tb (i := 1005) (by decide +kernel) (by decide +kernel), zT_tb (i := 11) (by decide +kernel) (by decide +kernel), zT_tb (i := 1004) (by decide +kernel) (by decide +kernel), zT_pr (i := 48) (by decide +kernel) (by decide +kernel), ⟨by decide +kernel, by decide +kernel, by decide +kernel⟩⟩
theorem mtX9_due : zMv yX9_due cX9_due 7 (some .int) 1 := ⟨zT_tb (i := 1009) (by decide +kernel) (by decide +kernel), zT_tb (i := 11) (by decide +kernel) (by decide +kernel), zT_tb (i := 1007) (by decide +kernel) (by decide +kernel), zT_tb (i := 1008) (by decide +kernel) (by decide +kernel), ⟨by decide +kernel, by decide +kernel, by decide +kernel⟩⟩
theorem mtX9_letters : zMv yX9_letters cX9_letters 3 (some .int) 0 := ⟨zT_tb (i := 1013) (by decide +kernel) (by decide +kernel), zT_tb (i := 11) (by decide +kernel) (by decide +kernel), zT_tb (i := 1012) (by decide +kernel) (by decide +kernel), zT_pr (i := 49) (by decide +kernel) (by decide +kernel), ⟨by decide +kernel, by decide +kernel, by decide +kernel⟩⟩
theorem mtX9_luck : zMv yX9_luck cX9_luck 9 (some .int) 3 := ⟨zT_tb (i := 1017) (by decide +kernel) (by decide +kernel), zT_tb (i := 11) (by decide +kernel) (by decide +kernel), zT_tb (i := 1015) (by decide +kernel) (by decide +kernel), zT_tb (i := 1016) (by decide +kernel) (by decide +kernel), ⟨by decide +kernel, by decide +kernel, by decide +kernel⟩⟩
theorem mtX9_type : zMv yX9_type cX9_type 2 (some .int) 1 := ⟨zT_tb (i := 1022) (by decide +kernel) (by decide +kernel), zT_tb (i := 11) (by decide +kernel) (by decide +kernel), zT_tb (i := 1020) (by decide +kernel) (by decide +kernel), zT_tb (i := 1021) (by decide +kernel) (by decide +kernel), ⟨by decide +kernel, by decide +kernel, by decide +kernel⟩⟩
theorem mtX9_read : zMv yX9_read cX9_read 3 (some .int) 0 := ⟨zT_tb (i := 1028) (by decide +kernel) (by decide +kernel), zT_tb (i := 11) (by decide +kernel) (by decide +kernel), zT_tb (i := 1026) (by decide +kernel) (by decide +kernel), zT_tb (i := 1027) (by decide +kernel) (by decide +kernel), ⟨by decide +kernel, by decide +kernel, by decide +kernel⟩⟩
theorem mtX9_goesThrough : zMv yX9_goesThrough cX9_goesThrough 6 (some .boolean) 1 := ⟨zT_tb (i := 1032) (by decide +kernel) (by decide +kernel), zT_tb (i := 11) (by decide +kernel) (by decide +kernel), zT_tb (i := 1031) (by decide +kernel) (by decide +kernel), zT_pr (i := 50) (by decide +kernel) (by decide +kernel), ⟨by decide +kernel, by decide +kernel, by decide +kernel⟩⟩
theorem mtX9_here : zMv yX9_here cX9_here 1 (some .int) 0 := ⟨zT_tb (i := 1036) (by decide +kernel) (by decide +kernel), zT_tb (i := 11) (by decide +kernel) (by decide +kernel), zT_tb (i := 1035) (by decide +kernel) (by decide +kernel), zT_pr (i := 51) (by decide +kernel) (by decide +kernel), ⟨by decide +kernel, by decide +kernel, by decide +kernel⟩⟩
theorem mtX9_event : zMv yX9_event cX9_event 4 (some .int) 0 := ⟨zT_tb (i := 1040) (by decide +kernel) (by decide +kernel), zT_tb (i := 11) (by decide +kernel) (by decide +kernel), zT_tb (i := 1039) (by decide +kernel) (by decide +kernel), zT_pr (i := 52) (by decide +kernel) (by decide +kernel), ⟨by decide +kernel, by decide +kernel, by decide +kernel⟩⟩
theorem mtX9_does : zMv yX9_does cX9_does 5 (some .boolean) 1 := ⟨zT_tb (i := 1048) (by decide +kernel) (by decide +kernel), zT_tb (i := 11) (by decide +kernel) (by decide +kernel), zT_tb (i := 1047) (by decide +kernel) (by decide +kernel), zT_pr (i := 53) (by decide +kernel) (by decide +kernel), ⟨by decide +kernel, by decide +kernel, by decide +kernel⟩⟩
theorem mtX9_drift : zMv yX9_drift cX9_drift 5 (some .int) 1 := ⟨zT_tb (i := 1052) (by decide +kernel) (by decide +kernel), zT_tb (i := 11) (by decide +kernel) (by decide +kernel), zT_tb (i := 1050) (by decide +kernel) (by decide +kernel), zT_tb (i := 1051) (by decide +kernel) (by decide +kernel), ⟨by decide +kernel, by decide +kernel, by decide +kernel⟩⟩
theorem mtX9_happens : zMv yX9_happens cX9_happens 5 none 1 := ⟨zT_tb (i := 1060) (by decide +kernel) (by decide +kernel), zT_tb (i := 11) (by decide +kernel) (by decide +kernel), zT_tb (i := 1059) (by decide +kernel) (by decide +kernel), zT_pr (i := 54) (by decide +kernel) (by decide +kernel), ⟨by decide +kernel, by decide +kernel, by decide +kernel⟩⟩
theorem mtX9_seed : zMv yX9_seed cX9_seed 3 (some .int) 1 := ⟨zT_tb (i := 1064) (by decide +kernel) (by decide +kernel), zT_tb (i := 11) (by decide +kernel) (by decide +kernel), zT_tb (i := 1062) (by decide +kernel) (by decide +kernel), zT_tb (i := 1063) (by decide +kernel) (by decide +kernel), ⟨by decide +kernel, by decide +kernel, by decide +kernel⟩⟩
theorem mtX9_undo : zMv yX9_undo cX9_undo 2 (some .int) 0 := ⟨zT_tb (i := 1068) (by decide +kernel) (by decide +kernel), zT_tb (i := 11) (by decide +kernel) (by decide +kernel), zT_tb (i := 1066) (by decide +kernel) (by decide +kernel), zT_tb (i := 1067) (by decide +kernel) (by decide +kernel), ⟨by decide +kernel, by decide +kernel, by decide +kernel⟩⟩
theorem mtX9_image : zMv yX9_image cX9_image 2 (some .int) 0 := ⟨zT_tb (i := 1072) (by decide +kernel) (by decide +kernel), zT_tb (i := 11) (by decide +kernel) (by decide +kernel), zT_tb (i := 1070) (by decide +kernel) (by decide +kernel), zT_tb (i := 1071) (by decide +kernel) (by decide +kernel), ⟨by decide +kernel, by decide +kernel, by decide +kernel⟩⟩
theorem mtX9_restore : zMv yX9_restore cX9_restore 2 (some .int) 0 := ⟨zT_tb (i := 1076) (by decide +kernel) (by decide +kernel), zT_tb (i := 11) (by decide +kernel) (by decide +kernel), zT_tb (i := 1074) (by decide +kernel) (by decide +kernel), zT_tb (i := 1075) (by decide +kernel) (by decide +kernel), ⟨by decide +kernel, by decide +kernel, by decide +kernel⟩⟩
theorem mtX9_sheet : zMv yX9_sheet cX9_sheet 5 (some .int) 3 := ⟨zT_tb (i := 1080) (by decide +kernel) (by decide +kernel), zT_tb (i := 11) (by decide +kernel) (by decide +kernel), zT_tb (i := 1078) (by decide +kernel) (by decide +kernel), zT_tb (i := 1079) (by decide +kernel) (by decide +kernel), ⟨by decide +kernel, by decide +kernel, by decide +kernel⟩⟩
theorem mtX9_isSheet : zMs yX9_isSheet cX9_isSheet 1 (some .boolean) 1 := ⟨zT_tb (i := 1083) (by decide +kernel) (by decide +kernel), zT_tb (i := 11) (by decide +kernel) (by decide +kernel), zT_tb (i := 1082) (by decide +kernel) (by decide +kernel), ⟨by decide +kernel, by decide +kernel, by decide +kernel⟩⟩
theorem mtX9_drop : zMv yX9_drop cX9_drop 2 (some .int) 1 := ⟨zT_tb (i := 1088) (by decide +kernel) (by decide +kernel), zT_tb (i := 11) (by decide +kernel) (by decide +kernel), zT_tb (i := 1086) (by decide +kernel) (by decide +kernel), zT_tb (i := 1087) (by decide +kernel) (by decide +kernel), ⟨by decide +kernel, by decide +kernel, by decide +kernel⟩⟩
theorem mtX9_item : zMv yX9_item cX9_item 7 (some .int) 4 := ⟨zT_tb (i := 1092) (by decide +kernel) (by decide +kernel), zT_tb (i := 11) (by decide +kernel) (by decide +kernel), zT_tb (i := 1090) (by decide +kernel) (by decide +kernel), zT_tb (i := 1091) (by decide +kernel) (by decide +kernel), ⟨by decide +kernel, by decide +kernel, by decide +kernel⟩⟩
theorem mtX9_whyNot : zMv yX9_whyNot cX9_whyNot 5 (some .int) 4 := ⟨zT_tb (i := 1096) (by decide +kernel) (by decide +kernel), zT_tb (i := 11) (by decide +kernel) (by decide +kernel), zT_tb (i := 1095) (by decide +kernel) (by decide +kernel), zT_pr (i := 55) (by decide +kernel) (by decide +kernel), ⟨by decide +kernel, by decide +kernel, by decide +kernel⟩⟩
theorem mtX9_cut : zMs yX9_cut cX9_cut 3 (some .long) 2 := ⟨zT_tb (i := 1099) (by decide +kernel) (by decide +kernel), zT_tb (i := 11) (by decide +kernel) (by decide +kernel), zT_tb (i := 1098) (by decide +kernel) (by decide +kernel), ⟨by decide +kernel, by decide +kernel, by decide +kernel⟩⟩
theorem mtX9_copy : zMv yX9_copy cX9_copy 7 (some .int) 5 := ⟨zT_tb (i := 1103) (by decide +kernel) (by decide +kernel), zT_tb (i := 11) (by decide +kernel) (by decide +kernel), zT_tb (i := 1101) (by decide +kernel) (by decide +kernel), zT_tb (i := 1102) (by decide +kernel) (by decide +kernel), ⟨by decide +kernel, by decide +kernel, by decide +kernel⟩⟩
theorem mtX9_got : zMv yX9_got cX9_got 9 (some .int) 5 := ⟨zT_tb (i := 1107) (by decide +kernel) (by decide +kernel), zT_tb (i := 11) (by decide +kernel) (by decide +kernel), zT_tb (i := 1105) (by decide +kernel) (by decide +kernel), zT_tb (i := 1106) (by decide +kernel) (by decide +kernel), ⟨by decide +kernel, by decide +kernel, by decide +kernel⟩⟩
theorem mtX9_film : zMv yX9_film cX9_film 8 (some .int) 4 := ⟨zT_tb (i := 1112) (by decide +kernel) (by decide +kernel), zT_tb (i := 11) (by decide +kernel) (by decide +kernel), zT_tb (i := 1110) (by decide +kernel) (by decide +kernel), zT_tb (i := 1111) (by decide +kernel) (by decide +kernel), ⟨by decide +kernel, by decide +kernel, by decide +kernel⟩⟩
/-- calls of nest mates' private methods: these words ride along -/
def zNest : List Cond := [.methodLinkNest RX0 11 yX5_init "KeyTrees", .methodLinkNest RX0 27 yX2_init "KeyTrees", .methodLinkNest RX8 31 yX7_init "KeyTrees", .methodLinkNest RX8 44 yX5_init "KeyTrees", .methodLinkNest RX8 51 yX4_init "KeyTrees", .methodLinkNest RX8 56 yX6_init "KeyTrees", .methodLinkNest RX0 94 yX8_has "KeyTrees", .methodLinkNest RX5 30 yX8_has "KeyTrees", .methodLinkNest RX1 46 yX8_has "KeyTrees", .methodLinkNest RX1 61 yX8_bit "KeyTrees"]
theorem zNest_lw : ∀ w ∈ zNest, w ∈ lw_tbl := by decide +kernel
theorem mn_X0_11 : Cond.methodLinkNest RX0 11 yX5_init "KeyTrees" ∈ zNest := List.mem_of_getElem? (i := 0) rfl
theorem mn_X0_27 : Cond.methodLinkNest RX0 27 yX2_init "KeyTrees" ∈ zNest := List.mem_of_getElem? (i := 1) rfl
theorem mn_X8_31 : Cond.methodLinkNest RX8 31 yX7_init "KeyTrees" ∈ zNest := List.mem_of_getElem? (i := 2) rfl
theorem mn_X8_44 : Cond.methodLinkNest RX8 44 yX5_init "KeyTrees" ∈ zNest := List.mem_of_getElem? (i := 3) rfl
theorem mn_X8_51 : Cond.methodLinkNest RX8 51 yX4_init "KeyTrees" ∈ zNest := List.mem_of_getElem? (i := 4) rfl
theorem mn_X8_56 : Cond.methodLinkNest RX8 56 yX6_init "KeyTrees" ∈ zNest := List.mem_of_getElem? (i := 5) rfl
theorem mn_X0_94 : Cond.methodLinkNest RX0 94 yX8_has "KeyTrees" ∈ zNest := List.mem_of_getElem? (i := 6) rfl
theorem mn_X5_30 : Cond.methodLinkNest RX5 30 yX8_has "KeyTrees" ∈ zNest := List.mem_of_getElem? (i := 7) rfl
theorem mn_X1_46 : Cond.methodLinkNest RX1 46 yX8_has "KeyTrees" ∈ zNest := List.mem_of_getElem? (i := 8) rfl
theorem mn_X1_61 : Cond.methodLinkNest RX1 61 yX8_bit "KeyTrees" ∈ zNest := List.mem_of_getElem? (i := 9) rfl
theorem ac_native : Cond.native arraycopyName ∈ zT := zT_tb (i := 290) (by decide +kernel) (by decide +kernel)
theorem ac_static : Cond.static arraycopyName ∈ zT := zT_tb (i := 289) (by decide +kernel) (by decide +kernel)
theorem ac_init : Cond.initialized "java/lang/System" ∈ zT := zT_tb (i := 12) (by decide +kernel) (by decide +kernel)
end
section
theorem dX0_init_0 : decode cX0_init 0 = .ok (.aload_n 0, 1) := by decide +kernel
theorem dX0_init_1 : decode cX0_init 1 = .ok (.invokespecial 3, 3) := by decide +kernel
theorem dX0_init_4 : decode cX0_init 4 = .ok (.aload_n 0, 1) := by decide +kernel
theorem dX0_init_5 : decode cX0_init 5 = .ok (.new 9, 3) := by decide +kernel
theorem dX0_init_8 : decode cX0_init 8 = .ok (.dup, 1) := by decide +kernel
theorem dX0_init_9 : decode cX0_init 9 = .ok (.invokespecial 11, 3) := by decide +kernel
theorem dX0_init_12 : decode cX0_init 12 = .ok (.putfield 12, 3) := by decide +kernel
theorem dX0_init_15 : decode cX0_init 15 = .ok (.aload_n 0, 1) := by decide +kernel
theorem dX0_init_16 : decode cX0_init 16 = .ok (.new 18, 3) := by decide +kernel
theorem dX0_init_19 : decode cX0_init 19 = .ok (.dup, 1) := by decide +kernel
theorem dX0_init_20 : decode cX0_init 20 = .ok (.invokespecial 20, 3) := by decide +kernel
theorem dX0_init_23 : decode cX0_init 23 = .ok (.putfield 21, 3) := by decide +kernel
theorem dX0_init_26 : decode cX0_init 26 = .ok (.aload_n 0, 1) := by decide +kernel
theorem dX0_init_27 : decode cX0_init 27 = .ok (.new 25, 3) := by decide +kernel
theorem dX0_init_30 : decode cX0_init 30 = .ok (.dup, 1) := by decide +kernel
theorem dX0_init_31 : decode cX0_init 31 = .ok (.invokespecial 27, 3) := by decide +kernel
theorem dX0_init_34 : decode cX0_init 34 = .ok (.putfield 28, 3) := by decide +kernel
theorem dX0_init_37 : decode cX0_init 37 = .ok (.aload_n 0, 1) := by decide +kernel
theorem dX0_init_38 : decode cX0_init 38 = .ok (.iconst 1, 1) := by decide +kernel
theorem dX0_init_39 : decode cX0_init 39 = .ok (.putfield 32, 3) := by decide +kernel
theorem dX0_init_42 : decode cX0_init 42 = .ok (.aload_n 0, 1) := by decide +kernel
theorem dX0_init_43 : decode cX0_init 43 = .ok (.bipush 16, 2) := by decide +kernel
theorem dX0_init_45 : decode cX0_init 45 = .ok (.newarray .int, 2) := by decide +kernel
theorem dX0_init_47 : decode cX0_init 47 = .ok (.putfield 36, 3) := by decide +kernel
theorem dX0_init_50 : decode cX0_init 50 = .ok (.aload_n 0, 1) := by decide +kernel
theorem dX0_init_51 : decode cX0_init 51 = .ok (.bipush 16, 2) := by decide +kernel
theorem dX0_init_53 : decode cX0_init 53 = .ok (.newarray .int, 2) := by decide +kernel
theorem dX0_init_55 : decode cX0_init 55 = .ok (.putfield 40, 3) := by decide +kernel
theorem dX0_init_58 : decode cX0_init 58 = .ok (.aload_n 0, 1) := by decide +kernel
theorem dX0_init_59 : decode cX0_init 59 = .ok (.bipush 16, 2) := by decide +kernel
theorem dX0_init_61 : decode cX0_init 61 = .ok (.newarray .int, 2) := by decide +kernel
theorem dX0_init_63 : decode cX0_init 63 = .ok (.putfield 43, 3) := by decide +kernel
theorem dX0_init_66 : decode cX0_init 66 = .ok (.aload_n 0, 1) := by decide +kernel
theorem dX0_init_67 : decode cX0_init 67 = .ok (.getfield 36, 3) := by decide +kernel
theorem dX0_init_70 : decode cX0_init 70 = .ok (.iconst (-1), 1) := by decide +kernel
theorem dX0_init_71 : decode cX0_init 71 = .ok (.invokestatic 46, 3) := by decide +kernel
theorem dX0_init_74 : decode cX0_init 74 = .ok (.return_, 1) := by decide +kernel
theorem dX0_take_0 : decode cX0_take 0 = .ok (.aload_n 0, 1) := by decide +kernel
theorem dX0_take_1 : decode cX0_take 1 = .ok (.getfield 12, 3) := by decide +kernel
theorem dX0_take_4 : decode cX0_take 4 = .ok (.aload_n 1, 1) := by decide +kernel
theorem dX0_take_5 : decode cX0_take 5 = .ok (.getfield 12, 3) := by decide +kernel
theorem dX0_take_8 : decode cX0_take 8 = .ok (.invokevirtual 52, 3) := by decide +kernel
theorem dX0_take_11 : decode cX0_take 11 = .ok (.aload_n 0, 1) := by decide +kernel
theorem dX0_take_12 : decode cX0_take 12 = .ok (.getfield 21, 3) := by decide +kernel
theorem dX0_take_15 : decode cX0_take 15 = .ok (.aload_n 1, 1) := by decide +kernel
theorem dX0_take_16 : decode cX0_take 16 = .ok (.getfield 21, 3) := by decide +kernel
theorem dX0_take_19 : decode cX0_take 19 = .ok (.invokevirtual 56, 3) := by decide +kernel
theorem dX0_take_22 : decode cX0_take 22 = .ok (.aload_n 0, 1) := by decide +kernel
theorem dX0_take_23 : decode cX0_take 23 = .ok (.getfield 28, 3) := by decide +kernel
theorem dX0_take_26 : decode cX0_take 26 = .ok (.aload_n 1, 1) := by decide +kernel
theorem dX0_take_27 : decode cX0_take 27 = .ok (.getfield 28, 3) := by decide +kernel
theorem dX0_take_30 : decode cX0_take 30 = .ok (.invokevirtual 59, 3) := by decide +kernel
theorem dX0_take_33 : decode cX0_take 33 = .ok (.aload_n 0, 1) := by decide +kernel
theorem dX0_take_34 : decode cX0_take 34 = .ok (.aload_n 1, 1) := by decide +kernel
theorem dX0_take_35 : decode cX0_take 35 = .ok (.getfield 62, 3) := by decide +kernel
theorem dX0_take_38 : decode cX0_take 38 = .ok (.putfield 62, 3) := by decide +kernel
theorem dX0_take_41 : decode cX0_take 41 = .ok (.aload_n 0, 1) := by decide +kernel
theorem dX0_take_42 : decode cX0_take 42 = .ok (.aload_n 1, 1) := by decide +kernel
theorem dX0_take_43 : decode cX0_take 43 = .ok (.getfield 65, 3) := by decide +kernel
theorem dX0_take_46 : decode cX0_take 46 = .ok (.putfield 65, 3) := by decide +kernel
theorem dX0_take_49 : decode cX0_take 49 = .ok (.aload_n 0, 1) := by decide +kernel
theorem dX0_take_50 : decode cX0_take 50 = .ok (.aload_n 1, 1) := by decide +kernel
theorem dX0_take_51 : decode cX0_take 51 = .ok (.getfield 68, 3) := by decide +kernel
theorem dX0_take_54 : decode cX0_take 54 = .ok (.putfield 68, 3) := by decide +kernel
theorem dX0_take_57 : decode cX0_take 57 = .ok (.aload_n 0, 1) := by decide +kernel
theorem dX0_take_58 : decode cX0_take 58 = .ok (.aload_n 1, 1) := by decide +kernel
theorem dX0_take_59 : decode cX0_take 59 = .ok (.getfield 71, 3) := by decide +kernel
theorem dX0_take_62 : decode cX0_take 62 = .ok (.putfield 71, 3) := by decide +kernel
theorem dX0_take_65 : decode cX0_take 65 = .ok (.aload_n 0, 1) := by decide +kernel
theorem dX0_take_66 : decode cX0_take 66 = .ok (.aload_n 1, 1) := by decide +kernel
theorem dX0_take_67 : decode cX0_take 67 = .ok (.getfield 32, 3) := by decide +kernel
theorem dX0_take_70 : decode cX0_take 70 = .ok (.putfield 32, 3) := by decide +kernel
theorem dX0_take_73 : decode cX0_take 73 = .ok (.aload_n 1, 1) := by decide +kernel
theorem dX0_take_74 : decode cX0_take 74 = .ok (.getfield 36, 3) := by decide +kernel
theorem dX0_take_77 : decode cX0_take 77 = .ok (.iconst 0, 1) := by decide +kernel
theorem dX0_take_78 : decode cX0_take 78 = .ok (.aload_n 0, 1) := by decide +kernel
theorem dX0_take_79 : decode cX0_take 79 = .ok (.getfield 36, 3) := by decide +kernel
theorem dX0_take_82 : decode cX0_take 82 = .ok (.iconst 0, 1) := by decide +kernel
theorem dX0_take_83 : decode cX0_take 83 = .ok (.bipush 16, 2) := by decide +kernel
theorem dX0_take_85 : decode cX0_take 85 = .ok (.invokestatic 74, 3) := by decide +kernel
theorem dX0_take_88 : decode cX0_take 88 = .ok (.aload_n 1, 1) := by decide +kernel
theorem dX0_take_89 : decode cX0_take 89 = .ok (.getfield 40, 3) := by decide +kernel
theorem dX0_take_92 : decode cX0_take 92 = .ok (.iconst 0, 1) := by decide +kernel
theorem dX0_take_93 : decode cX0_take 93 = .ok (.aload_n 0, 1) := by decide +kernel
theorem dX0_take_94 : decode cX0_take 94 = .ok (.getfield 40, 3) := by decide +kernel
theorem dX0_take_97 : decode cX0_take 97 = .ok (.iconst 0, 1) := by decide +kernel
theorem dX0_take_98 : decode cX0_take 98 = .ok (.bipush 16, 2) := by decide +kernel
theorem dX0_take_100 : decode cX0_take 100 = .ok (.invokestatic 74, 3) := by decide +kernel
theorem dX0_take_103 : decode cX0_take 103 = .ok (.aload_n 1, 1) := by decide +kernel
theorem dX0_take_104 : decode cX0_take 104 = .ok (.getfield 43, 3) := by decide +kernel
theorem dX0_take_107 : decode cX0_take 107 = .ok (.iconst 0, 1) := by decide +kernel
theorem dX0_take_108 : decode cX0_take 108 = .ok (.aload_n 0, 1) := by decide +kernel
theorem dX0_take_109 : decode cX0_take 109 = .ok (.getfield 43, 3) := by decide +kernel
theorem dX0_take_112 : decode cX0_take 112 = .ok (.iconst 0, 1) := by decide +kernel
theorem dX0_take_113 : decode cX0_take 113 = .ok (.bipush 16, 2) := by decide +kernel
theorem dX0_take_115 : decode cX0_take 115 = .ok (.invokestatic 74, 3) := by decide +kernel
theorem dX0_take_118 : decode cX0_take 118 = .ok (.return_, 1) := by decide +kernel
theorem dX0_beginAnew_0 : decode cX0_beginAnew 0 = .ok (.aload_n 0, 1) := by decide +kernel
theorem dX0_beginAnew_1 : decode cX0_beginAnew 1 = .ok (.getfield 12, 3) := by decide +kernel
theorem dX0_beginAnew_4 : decode cX0_beginAnew 4 = .ok (.invokevirtual 80, 3) := by decide +kernel
theorem dX0_beginAnew_7 : decode cX0_beginAnew 7 = .ok (.aload_n 0, 1) := by decide +kernel
theorem dX0_beginAnew_8 : decode cX0_beginAnew 8 = .ok (.getfield 21, 3) := by decide +kernel
theorem dX0_beginAnew_11 : decode cX0_beginAnew 11 = .ok (.invokevirtual 83, 3) := by decide +kernel
theorem dX0_beginAnew_14 : decode cX0_beginAnew 14 = .ok (.aload_n 0, 1) := by decide +kernel
theorem dX0_beginAnew_15 : decode cX0_beginAnew 15 = .ok (.getfield 28, 3) := by decide +kernel
theorem dX0_beginAnew_18 : decode cX0_beginAnew 18 = .ok (.iconst 0, 1) := by decide +kernel
theorem dX0_beginAnew_19 : decode cX0_beginAnew 19 = .ok (.putfield 84, 3) := by decide +kernel
theorem dX0_beginAnew_22 : decode cX0_beginAnew 22 = .ok (.aload_n 0, 1) := by decide +kernel
theorem dX0_beginAnew_23 : decode cX0_beginAnew 23 = .ok (.iconst 0, 1) := by decide +kernel
theorem dX0_beginAnew_24 : decode cX0_beginAnew 24 = .ok (.putfield 62, 3) := by decide +kernel
theorem dX0_beginAnew_27 : decode cX0_beginAnew 27 = .ok (.aload_n 0, 1) := by decide +kernel
theorem dX0_beginAnew_28 : decode cX0_beginAnew 28 = .ok (.iconst 0, 1) := by decide +kernel
theorem dX0_beginAnew_29 : decode cX0_beginAnew 29 = .ok (.putfield 65, 3) := by decide +kernel
theorem dX0_beginAnew_32 : decode cX0_beginAnew 32 = .ok (.aload_n 0, 1) := by decide +kernel
theorem dX0_beginAnew_33 : decode cX0_beginAnew 33 = .ok (.iconst 0, 1) := by decide +kernel
theorem dX0_beginAnew_34 : decode cX0_beginAnew 34 = .ok (.putfield 68, 3) := by decide +kernel
theorem dX0_beginAnew_37 : decode cX0_beginAnew 37 = .ok (.aload_n 0, 1) := by decide +kernel
theorem dX0_beginAnew_38 : decode cX0_beginAnew 38 = .ok (.iconst 0, 1) := by decide +kernel
theorem dX0_beginAnew_39 : decode cX0_beginAnew 39 = .ok (.putfield 71, 3) := by decide +kernel
theorem dX0_beginAnew_42 : decode cX0_beginAnew 42 = .ok (.aload_n 0, 1) := by decide +kernel
theorem dX0_beginAnew_43 : decode cX0_beginAnew 43 = .ok (.getfield 36, 3) := by decide +kernel
theorem dX0_beginAnew_46 : decode cX0_beginAnew 46 = .ok (.iconst (-1), 1) := by decide +kernel
theorem dX0_beginAnew_47 : decode cX0_beginAnew 47 = .ok (.invokestatic 46, 3) := by decide +kernel
theorem dX0_beginAnew_50 : decode cX0_beginAnew 50 = .ok (.return_, 1) := by decide +kernel
theorem dX0_groupKey_0 : decode cX0_groupKey 0 = .ok (.aload_n 0, 1) := by decide +kernel
theorem dX0_groupKey_1 : decode cX0_groupKey 1 = .ok (.getfield 21, 3) := by decide +kernel
theorem dX0_groupKey_4 : decode cX0_groupKey 4 = .ok (.getfield 87, 3) := by decide +kernel
theorem dX0_groupKey_7 : decode cX0_groupKey 7 = .ok (.iconst 1, 1) := by decide +kernel
theorem dX0_groupKey_8 : decode cX0_groupKey 8 = .ok (.iaload, 1) := by decide +kernel
theorem dX0_groupKey_9 : decode cX0_groupKey 9 = .ok (.ireturn, 1) := by decide +kernel
theorem dX0_unread_0 : decode cX0_unread 0 = .ok (.aload_n 0, 1) := by decide +kernel
theorem dX0_unread_1 : decode cX0_unread 1 = .ok (.getfield 28, 3) := by decide +kernel
theorem dX0_unread_4 : decode cX0_unread 4 = .ok (.getfield 84, 3) := by decide +kernel
theorem dX0_unread_7 : decode cX0_unread 7 = .ok (.aload_n 0, 1) := by decide +kernel
theorem dX0_unread_8 : decode cX0_unread 8 = .ok (.getfield 43, 3) := by decide +kernel
theorem dX0_unread_11 : decode cX0_unread 11 = .ok (.iload_n 1, 1) := by decide +kernel
theorem dX0_unread_12 : decode cX0_unread 12 = .ok (.iaload, 1) := by decide +kernel
theorem dX0_unread_13 : decode cX0_unread 13 = .ok (.isub, 1) := by decide +kernel
theorem dX0_unread_14 : decode cX0_unread 14 = .ok (.ireturn, 1) := by decide +kernel
theorem dX0_mayCome_0 : decode cX0_mayCome 0 = .ok (.aload_n 0, 1) := by decide +kernel
theorem dX0_mayCome_1 : decode cX0_mayCome 1 = .ok (.getfield 12, 3) := by decide +kernel
theorem dX0_mayCome_4 : decode cX0_mayCome 4 = .ok (.iload_n 1, 1) := by decide +kernel
theorem dX0_mayCome_5 : decode cX0_mayCome 5 = .ok (.invokevirtual 90, 3) := by decide +kernel
theorem dX0_mayCome_8 : decode cX0_mayCome 8 = .ok (.ifCond .ne 18, 3) := by decide +kernel
theorem dX0_mayCome_11 : decode cX0_mayCome 11 = .ok (.aload_n 0, 1) := by decide +kernel
theorem dX0_mayCome_12 : decode cX0_mayCome 12 = .ok (.getfield 62, 3) := by decide +kernel
theorem dX0_mayCome_15 : decode cX0_mayCome 15 = .ok (.iload_n 1, 1) := by decide +kernel
theorem dX0_mayCome_16 : decode cX0_mayCome 16 = .ok (.invokestatic 94, 3) := by decide +kernel
theorem dX0_mayCome_19 : decode cX0_mayCome 19 = .ok (.ifCond .ne 7, 3) := by decide +kernel
theorem dX0_mayCome_22 : decode cX0_mayCome 22 = .ok (.iconst 1, 1) := by decide +kernel
theorem dX0_mayCome_23 : decode cX0_mayCome 23 = .ok (.goto 4, 3) := by decide +kernel
theorem dX0_mayCome_26 : decode cX0_mayCome 26 = .ok (.iconst 0, 1) := by decide +kernel
theorem dX0_mayCome_27 : decode cX0_mayCome 27 = .ok (.ireturn, 1) := by decide +kernel
theorem dX0_mayLeave_0 : decode cX0_mayLeave 0 = .ok (.aload_n 0, 1) := by decide +kernel
theorem dX0_mayLeave_1 : decode cX0_mayLeave 1 = .ok (.getfield 12, 3) := by decide +kernel
theorem dX0_mayLeave_4 : decode cX0_mayLeave 4 = .ok (.iload_n 1, 1) := by decide +kernel
theorem dX0_mayLeave_5 : decode cX0_mayLeave 5 = .ok (.invokevirtual 90, 3) := by decide +kernel
theorem dX0_mayLeave_8 : decode cX0_mayLeave 8 = .ok (.ifCond .eq 18, 3) := by decide +kernel
theorem dX0_mayLeave_11 : decode cX0_mayLeave 11 = .ok (.aload_n 0, 1) := by decide +kernel
theorem dX0_mayLeave_12 : decode cX0_mayLeave 12 = .ok (.getfield 65, 3) := by decide +kernel
theorem dX0_mayLeave_15 : decode cX0_mayLeave 15 = .ok (.iload_n 1, 1) := by decide +kernel
theorem dX0_mayLeave_16 : decode cX0_mayLeave 16 = .ok (.invokestatic 94, 3) := by decide +kernel
theorem dX0_mayLeave_19 : decode cX0_mayLeave 19 = .ok (.ifCond .ne 7, 3) := by decide +kernel
theorem dX0_mayLeave_22 : decode cX0_mayLeave 22 = .ok (.iconst 1, 1) := by decide +kernel
theorem dX0_mayLeave_23 : decode cX0_mayLeave 23 = .ok (.goto 4, 3) := by decide +kernel
theorem dX0_mayLeave_26 : decode cX0_mayLeave 26 = .ok (.iconst 0, 1) := by decide +kernel
theorem dX0_mayLeave_27 : decode cX0_mayLeave 27 = .ok (.ireturn, 1) := by decide +kernel
theorem dX0_isAwake_0 : decode cX0_isAwake 0 = .ok (.aload_n 0, 1) := by decide +kernel
theorem dX0_isAwake_1 : decode cX0_isAwake 1 = .ok (.getfield 12, 3) := by decide +kernel
theorem dX0_isAwake_4 : decode cX0_isAwake 4 = .ok (.iload_n 1, 1) := by decide +kernel
theorem dX0_isAwake_5 : decode cX0_isAwake 5 = .ok (.invokevirtual 90, 3) := by decide +kernel
theorem dX0_isAwake_8 : decode cX0_isAwake 8 = .ok (.ifCond .eq 18, 3) := by decide +kernel
theorem dX0_isAwake_11 : decode cX0_isAwake 11 = .ok (.aload_n 0, 1) := by decide +kernel
theorem dX0_isAwake_12 : decode cX0_isAwake 12 = .ok (.getfield 68, 3) := by decide +kernel
theorem dX0_isAwake_15 : decode cX0_isAwake 15 = .ok (.iload_n 1, 1) := by decide +kernel
theorem dX0_isAwake_16 : decode cX0_isAwake 16 = .ok (.invokestatic 94, 3) := by decide +kernel
theorem dX0_isAwake_19 : decode cX0_isAwake 19 = .ok (.ifCond .ne 7, 3) := by decide +kernel
theorem dX0_isAwake_22 : decode cX0_isAwake 22 = .ok (.iconst 1, 1) := by decide +kernel
theorem dX0_isAwake_23 : decode cX0_isAwake 23 = .ok (.goto 4, 3) := by decide +kernel
theorem dX0_isAwake_26 : decode cX0_isAwake 26 = .ok (.iconst 0, 1) := by decide +kernel
theorem dX0_isAwake_27 : decode cX0_isAwake 27 = .ok (.ireturn, 1) := by decide +kernel
theorem dX0_isAsleep_0 : decode cX0_isAsleep 0 = .ok (.aload_n 0, 1) := by decide +kernel
theorem dX0_isAsleep_1 : decode cX0_isAsleep 1 = .ok (.getfield 68, 3) := by decide +kernel
theorem dX0_isAsleep_4 : decode cX0_isAsleep 4 = .ok (.iload_n 1, 1) := by decide +kernel
theorem dX0_isAsleep_5 : decode cX0_isAsleep 5 = .ok (.invokestatic 94, 3) := by decide +kernel
theorem dX0_isAsleep_8 : decode cX0_isAsleep 8 = .ok (.ireturn, 1) := by decide +kernel
theorem dX0_batchRefusal_0 : decode cX0_batchRefusal 0 = .ok (.aload_n 0, 1) := by decide +kernel
theorem dX0_batchRefusal_1 : decode cX0_batchRefusal 1 = .ok (.getfield 62, 3) := by decide +kernel
theorem dX0_batchRefusal_4 : decode cX0_batchRefusal 4 = .ok (.ifCond .ne 13, 3) := by decide +kernel
theorem dX0_batchRefusal_7 : decode cX0_batchRefusal 7 = .ok (.aload_n 0, 1) := by decide +kernel
theorem dX0_batchRefusal_8 : decode cX0_batchRefusal 8 = .ok (.getfield 65, 3) := by decide +kernel
theorem dX0_batchRefusal_11 : decode cX0_batchRefusal 11 = .ok (.ifCond .ne 6, 3) := by decide +kernel
theorem dX0_batchRefusal_14 : decode cX0_batchRefusal 14 = .ok (.bipush (-2), 2) := by decide +kernel
theorem dX0_batchRefusal_16 : decode cX0_batchRefusal 16 = .ok (.ireturn, 1) := by decide +kernel
theorem dX0_batchRefusal_17 : decode cX0_batchRefusal 17 = .ok (.aload_n 0, 1) := by decide +kernel
theorem dX0_batchRefusal_18 : decode cX0_batchRefusal 18 = .ok (.invokevirtual 98, 3) := by decide +kernel
theorem dX0_batchRefusal_21 : decode cX0_batchRefusal 21 = .ok (.ireturn, 1) := by decide +kernel
theorem dX0_mendRefusal_0 : decode cX0_mendRefusal 0 = .ok (.aload_n 0, 1) := by decide +kernel
theorem dX0_mendRefusal_1 : decode cX0_mendRefusal 1 = .ok (.iload_n 1, 1) := by decide +kernel
theorem dX0_mendRefusal_2 : decode cX0_mendRefusal 2 = .ok (.invokevirtual 102, 3) := by decide +kernel
theorem dX0_mendRefusal_5 : decode cX0_mendRefusal 5 = .ok (.ifCond .eq 11, 3) := by decide +kernel
theorem dX0_mendRefusal_8 : decode cX0_mendRefusal 8 = .ok (.aload_n 0, 1) := by decide +kernel
theorem dX0_mendRefusal_9 : decode cX0_mendRefusal 9 = .ok (.iload_n 1, 1) := by decide +kernel
theorem dX0_mendRefusal_10 : decode cX0_mendRefusal 10 = .ok (.invokevirtual 105, 3) := by decide +kernel
theorem dX0_mendRefusal_13 : decode cX0_mendRefusal 13 = .ok (.ifCond .eq 6, 3) := by decide +kernel
theorem dX0_mendRefusal_16 : decode cX0_mendRefusal 16 = .ok (.bipush (-2), 2) := by decide +kernel
theorem dX0_mendRefusal_18 : decode cX0_mendRefusal 18 = .ok (.ireturn, 1) := by decide +kernel
theorem dX0_mendRefusal_19 : decode cX0_mendRefusal 19 = .ok (.aload_n 0, 1) := by decide +kernel
theorem dX0_mendRefusal_20 : decode cX0_mendRefusal 20 = .ok (.invokevirtual 98, 3) := by decide +kernel
theorem dX0_mendRefusal_23 : decode cX0_mendRefusal 23 = .ok (.ireturn, 1) := by decide +kernel
theorem dX0_fullRefusal_0 : decode cX0_fullRefusal 0 = .ok (.aload_n 0, 1) := by decide +kernel
theorem dX0_fullRefusal_1 : decode cX0_fullRefusal 1 = .ok (.getfield 21, 3) := by decide +kernel
theorem dX0_fullRefusal_4 : decode cX0_fullRefusal 4 = .ok (.getfield 108, 3) := by decide +kernel
theorem dX0_fullRefusal_7 : decode cX0_fullRefusal 7 = .ok (.sipush 200, 3) := by decide +kernel
theorem dX0_fullRefusal_10 : decode cX0_fullRefusal 10 = .ok (.if_icmp .ge 16, 3) := by decide +kernel
theorem dX0_fullRefusal_13 : decode cX0_fullRefusal 13 = .ok (.aload_n 0, 1) := by decide +kernel
theorem dX0_fullRefusal_14 : decode cX0_fullRefusal 14 = .ok (.getfield 28, 3) := by decide +kernel
theorem dX0_fullRefusal_17 : decode cX0_fullRefusal 17 = .ok (.getfield 84, 3) := by decide +kernel
theorem dX0_fullRefusal_20 : decode cX0_fullRefusal 20 = .ok (.sipush 160, 3) := by decide +kernel
theorem dX0_fullRefusal_23 : decode cX0_fullRefusal 23 = .ok (.if_icmp .lt 8, 3) := by decide +kernel
theorem dX0_fullRefusal_26 : decode cX0_fullRefusal 26 = .ok (.bipush (-3), 2) := by decide +kernel
theorem dX0_fullRefusal_28 : decode cX0_fullRefusal 28 = .ok (.goto 4, 3) := by decide +kernel
theorem dX0_fullRefusal_31 : decode cX0_fullRefusal 31 = .ok (.iconst 0, 1) := by decide +kernel
theorem dX0_fullRefusal_32 : decode cX0_fullRefusal 32 = .ok (.ireturn, 1) := by decide +kernel
theorem dX0_holdsAllAbove_0 : decode cX0_holdsAllAbove 0 = .ok (.aload_n 0, 1) := by decide +kernel
theorem dX0_holdsAllAbove_1 : decode cX0_holdsAllAbove 1 = .ok (.getfield 12, 3) := by decide +kernel
theorem dX0_holdsAllAbove_4 : decode cX0_holdsAllAbove 4 = .ok (.getfield 111, 3) := by decide +kernel
theorem dX0_holdsAllAbove_7 : decode cX0_holdsAllAbove 7 = .ok (.iload_n 1, 1) := by decide +kernel
theorem dX0_holdsAllAbove_8 : decode cX0_holdsAllAbove 8 = .ok (.iaload, 1) := by decide +kernel
theorem dX0_holdsAllAbove_9 : decode cX0_holdsAllAbove 9 = .ok (.iconst 2, 1) := by decide +kernel
theorem dX0_holdsAllAbove_10 : decode cX0_holdsAllAbove 10 = .ok (.idiv, 1) := by decide +kernel
theorem dX0_holdsAllAbove_11 : decode cX0_holdsAllAbove 11 = .ok (.istore_n 2, 1) := by decide +kernel
theorem dX0_holdsAllAbove_12 : decode cX0_holdsAllAbove 12 = .ok (.iload_n 2, 1) := by decide +kernel
theorem dX0_holdsAllAbove_13 : decode cX0_holdsAllAbove 13 = .ok (.iconst 1, 1) := by decide +kernel
theorem dX0_holdsAllAbove_14 : decode cX0_holdsAllAbove 14 = .ok (.if_icmp .lt 32, 3) := by decide +kernel
theorem dX0_holdsAllAbove_17 : decode cX0_holdsAllAbove 17 = .ok (.aload_n 0, 1) := by decide +kernel
theorem dX0_holdsAllAbove_18 : decode cX0_holdsAllAbove 18 = .ok (.getfield 21, 3) := by decide +kernel
theorem dX0_holdsAllAbove_21 : decode cX0_holdsAllAbove 21 = .ok (.aload_n 0, 1) := by decide +kernel
theorem dX0_holdsAllAbove_22 : decode cX0_holdsAllAbove 22 = .ok (.getfield 21, 3) := by decide +kernel
theorem dX0_holdsAllAbove_25 : decode cX0_holdsAllAbove 25 = .ok (.getfield 87, 3) := by decide +kernel
theorem dX0_holdsAllAbove_28 : decode cX0_holdsAllAbove 28 = .ok (.iload_n 2, 1) := by decide +kernel
theorem dX0_holdsAllAbove_29 : decode cX0_holdsAllAbove 29 = .ok (.iaload, 1) := by decide +kernel
theorem dX0_holdsAllAbove_30 : decode cX0_holdsAllAbove 30 = .ok (.iload_n 1, 1) := by decide +kernel
theorem dX0_holdsAllAbove_31 : decode cX0_holdsAllAbove 31 = .ok (.invokevirtual 114, 3) := by decide +kernel
theorem dX0_holdsAllAbove_34 : decode cX0_holdsAllAbove 34 = .ok (.ifCond .ne 5, 3) := by decide +kernel
theorem dX0_holdsAllAbove_37 : decode cX0_holdsAllAbove 37 = .ok (.iconst 0, 1) := by decide +kernel
theorem dX0_holdsAllAbove_38 : decode cX0_holdsAllAbove 38 = .ok (.ireturn, 1) := by decide +kernel
theorem dX0_holdsAllAbove_39 : decode cX0_holdsAllAbove 39 = .ok (.iload_n 2, 1) := by decide +kernel
theorem dX0_holdsAllAbove_40 : decode cX0_holdsAllAbove 40 = .ok (.iconst 2, 1) := by decide +kernel
theorem dX0_holdsAllAbove_41 : decode cX0_holdsAllAbove 41 = .ok (.idiv, 1) := by decide +kernel
theorem dX0_holdsAllAbove_42 : decode cX0_holdsAllAbove 42 = .ok (.istore_n 2, 1) := by decide +kernel
theorem dX0_holdsAllAbove_43 : decode cX0_holdsAllAbove 43 = .ok (.goto (-31), 3) := by decide +kernel
theorem dX0_holdsAllAbove_46 : decode cX0_holdsAllAbove 46 = .ok (.iconst 1, 1) := by decide +kernel
theorem dX0_holdsAllAbove_47 : decode cX0_holdsAllAbove 47 = .ok (.ireturn, 1) := by decide +kernel
theorem dX0_addComer_0 : decode cX0_addComer 0 = .ok (.aload_n 0, 1) := by decide +kernel
theorem dX0_addComer_1 : decode cX0_addComer 1 = .ok (.dup, 1) := by decide +kernel
theorem dX0_addComer_2 : decode cX0_addComer 2 = .ok (.getfield 62, 3) := by decide +kernel
theorem dX0_addComer_5 : decode cX0_addComer 5 = .ok (.iconst 1, 1) := by decide +kernel
theorem dX0_addComer_6 : decode cX0_addComer 6 = .ok (.iload_n 1, 1) := by decide +kernel
theorem dX0_addComer_7 : decode cX0_addComer 7 = .ok (.ishl, 1) := by decide +kernel
theorem dX0_addComer_8 : decode cX0_addComer 8 = .ok (.ior, 1) := by decide +kernel
theorem dX0_addComer_9 : decode cX0_addComer 9 = .ok (.putfield 62, 3) := by decide +kernel
theorem dX0_addComer_12 : decode cX0_addComer 12 = .ok (.return_, 1) := by decide +kernel
theorem dX0_addLeaver_0 : decode cX0_addLeaver 0 = .ok (.aload_n 0, 1) := by decide +kernel
theorem dX0_addLeaver_1 : decode cX0_addLeaver 1 = .ok (.dup, 1) := by decide +kernel
theorem dX0_addLeaver_2 : decode cX0_addLeaver 2 = .ok (.getfield 65, 3) := by decide +kernel
theorem dX0_addLeaver_5 : decode cX0_addLeaver 5 = .ok (.iconst 1, 1) := by decide +kernel
theorem dX0_addLeaver_6 : decode cX0_addLeaver 6 = .ok (.iload_n 1, 1) := by decide +kernel
theorem dX0_addLeaver_7 : decode cX0_addLeaver 7 = .ok (.ishl, 1) := by decide +kernel
theorem dX0_addLeaver_8 : decode cX0_addLeaver 8 = .ok (.ior, 1) := by decide +kernel
theorem dX0_addLeaver_9 : decode cX0_addLeaver 9 = .ok (.putfield 65, 3) := by decide +kernel
theorem dX0_addLeaver_12 : decode cX0_addLeaver 12 = .ok (.return_, 1) := by decide +kernel
theorem dX0_tryCome_0 : decode cX0_tryCome 0 = .ok (.aload_n 0, 1) := by decide +kernel
theorem dX0_tryCome_1 : decode cX0_tryCome 1 = .ok (.iload_n 1, 1) := by decide +kernel
theorem dX0_tryCome_2 : decode cX0_tryCome 2 = .ok (.invokevirtual 117, 3) := by decide +kernel
theorem dX0_tryCome_5 : decode cX0_tryCome 5 = .ok (.ifCond .ne 5, 3) := by decide +kernel
theorem dX0_tryCome_8 : decode cX0_tryCome 8 = .ok (.iconst 0, 1) := by decide +kernel
theorem dX0_tryCome_9 : decode cX0_tryCome 9 = .ok (.ireturn, 1) := by decide +kernel
theorem dX0_tryCome_10 : decode cX0_tryCome 10 = .ok (.aload_n 0, 1) := by decide +kernel
theorem dX0_tryCome_11 : decode cX0_tryCome 11 = .ok (.iload_n 1, 1) := by decide +kernel
theorem dX0_tryCome_12 : decode cX0_tryCome 12 = .ok (.invokevirtual 120, 3) := by decide +kernel
theorem dX0_tryCome_15 : decode cX0_tryCome 15 = .ok (.iconst 1, 1) := by decide +kernel
theorem dX0_tryCome_16 : decode cX0_tryCome 16 = .ok (.ireturn, 1) := by decide +kernel
theorem dX0_tryLeave_0 : decode cX0_tryLeave 0 = .ok (.aload_n 0, 1) := by decide +kernel
theorem dX0_tryLeave_1 : decode cX0_tryLeave 1 = .ok (.iload_n 1, 1) := by decide +kernel
theorem dX0_tryLeave_2 : decode cX0_tryLeave 2 = .ok (.invokevirtual 124, 3) := by decide +kernel
theorem dX0_tryLeave_5 : decode cX0_tryLeave 5 = .ok (.ifCond .ne 5, 3) := by decide +kernel
theorem dX0_tryLeave_8 : decode cX0_tryLeave 8 = .ok (.iconst 0, 1) := by decide +kernel
theorem dX0_tryLeave_9 : decode cX0_tryLeave 9 = .ok (.ireturn, 1) := by decide +kernel
theorem dX0_tryLeave_10 : decode cX0_tryLeave 10 = .ok (.aload_n 0, 1) := by decide +kernel
theorem dX0_tryLeave_11 : decode cX0_tryLeave 11 = .ok (.iload_n 1, 1) := by decide +kernel
theorem dX0_tryLeave_12 : decode cX0_tryLeave 12 = .ok (.invokevirtual 127, 3) := by decide +kernel
theorem dX0_tryLeave_15 : decode cX0_tryLeave 15 = .ok (.iconst 1, 1) := by decide +kernel
theorem dX0_tryLeave_16 : decode cX0_tryLeave 16 = .ok (.ireturn, 1) := by decide +kernel
theorem dX0_tryBatch_0 : decode cX0_tryBatch 0 = .ok (.aload_n 0, 1) := by decide +kernel
theorem dX0_tryBatch_1 : decode cX0_tryBatch 1 = .ok (.invokevirtual 130, 3) := by decide +kernel
theorem dX0_tryBatch_4 : decode cX0_tryBatch 4 = .ok (.ifCond .eq 5, 3) := by decide +kernel
theorem dX0_tryBatch_7 : decode cX0_tryBatch 7 = .ok (.iconst 0, 1) := by decide +kernel
theorem dX0_tryBatch_8 : decode cX0_tryBatch 8 = .ok (.ireturn, 1) := by decide +kernel
theorem dX0_tryBatch_9 : decode cX0_tryBatch 9 = .ok (.aload_n 0, 1) := by decide +kernel
theorem dX0_tryBatch_10 : decode cX0_tryBatch 10 = .ok (.invokevirtual 133, 3) := by decide +kernel
theorem dX0_tryBatch_13 : decode cX0_tryBatch 13 = .ok (.pop, 1) := by decide +kernel
theorem dX0_tryBatch_14 : decode cX0_tryBatch 14 = .ok (.iconst 1, 1) := by decide +kernel
theorem dX0_tryBatch_15 : decode cX0_tryBatch 15 = .ok (.ireturn, 1) := by decide +kernel
theorem dX0_changeAll_0 : decode cX0_changeAll 0 = .ok (.aload_n 0, 1) := by decide +kernel
theorem dX0_changeAll_1 : decode cX0_changeAll 1 = .ok (.getfield 28, 3) := by decide +kernel
theorem dX0_changeAll_4 : decode cX0_changeAll 4 = .ok (.getfield 84, 3) := by decide +kernel
theorem dX0_changeAll_7 : decode cX0_changeAll 7 = .ok (.istore_n 1, 1) := by decide +kernel
theorem dX0_changeAll_8 : decode cX0_changeAll 8 = .ok (.aload_n 0, 1) := by decide +kernel
theorem dX0_changeAll_9 : decode cX0_changeAll 9 = .ok (.getfield 12, 3) := by decide +kernel
theorem dX0_changeAll_12 : decode cX0_changeAll 12 = .ok (.aload_n 0, 1) := by decide +kernel
theorem dX0_changeAll_13 : decode cX0_changeAll 13 = .ok (.getfield 65, 3) := by decide +kernel
theorem dX0_changeAll_16 : decode cX0_changeAll 16 = .ok (.aload_n 0, 1) := by decide +kernel
theorem dX0_changeAll_17 : decode cX0_changeAll 17 = .ok (.getfield 62, 3) := by decide +kernel
theorem dX0_changeAll_20 : decode cX0_changeAll 20 = .ok (.invokevirtual 136, 3) := by decide +kernel
theorem dX0_changeAll_23 : decode cX0_changeAll 23 = .ok (.istore_n 2, 1) := by decide +kernel
theorem dX0_changeAll_24 : decode cX0_changeAll 24 = .ok (.aload_n 0, 1) := by decide +kernel
theorem dX0_changeAll_25 : decode cX0_changeAll 25 = .ok (.getfield 21, 3) := by decide +kernel
theorem dX0_changeAll_28 : decode cX0_changeAll 28 = .ok (.aload_n 0, 1) := by decide +kernel
theorem dX0_changeAll_29 : decode cX0_changeAll 29 = .ok (.getfield 12, 3) := by decide +kernel
theorem dX0_changeAll_32 : decode cX0_changeAll 32 = .ok (.iload_n 2, 1) := by decide +kernel
theorem dX0_changeAll_33 : decode cX0_changeAll 33 = .ok (.aload_n 0, 1) := by decide +kernel
theorem dX0_changeAll_34 : decode cX0_changeAll 34 = .ok (.getfield 71, 3) := by decide +kernel
theorem dX0_changeAll_37 : decode cX0_changeAll 37 = .ok (.invokevirtual 140, 3) := by decide +kernel
theorem dX0_changeAll_40 : decode cX0_changeAll 40 = .ok (.iconst 0, 1) := by decide +kernel
theorem dX0_changeAll_41 : decode cX0_changeAll 41 = .ok (.istore_n 3, 1) := by decide +kernel
theorem dX0_changeAll_42 : decode cX0_changeAll 42 = .ok (.iload_n 3, 1) := by decide +kernel
theorem dX0_changeAll_43 : decode cX0_changeAll 43 = .ok (.bipush 16, 2) := by decide +kernel
theorem dX0_changeAll_45 : decode cX0_changeAll 45 = .ok (.if_icmp .ge 86, 3) := by decide +kernel
theorem dX0_changeAll_48 : decode cX0_changeAll 48 = .ok (.aload_n 0, 1) := by decide +kernel
theorem dX0_changeAll_49 : decode cX0_changeAll 49 = .ok (.getfield 62, 3) := by decide +kernel
theorem dX0_changeAll_52 : decode cX0_changeAll 52 = .ok (.iload_n 3, 1) := by decide +kernel
theorem dX0_changeAll_53 : decode cX0_changeAll 53 = .ok (.invokestatic 94, 3) := by decide +kernel
theorem dX0_changeAll_56 : decode cX0_changeAll 56 = .ok (.ifCond .eq 48, 3) := by decide +kernel
theorem dX0_changeAll_59 : decode cX0_changeAll 59 = .ok (.aload_n 0, 1) := by decide +kernel
theorem dX0_changeAll_60 : decode cX0_changeAll 60 = .ok (.getfield 36, 3) := by decide +kernel
theorem dX0_changeAll_63 : decode cX0_changeAll 63 = .ok (.iload_n 3, 1) := by decide +kernel
theorem dX0_changeAll_64 : decode cX0_changeAll 64 = .ok (.aload_n 0, 1) := by decide +kernel
theorem dX0_changeAll_65 : decode cX0_changeAll 65 = .ok (.getfield 71, 3) := by decide +kernel
theorem dX0_changeAll_68 : decode cX0_changeAll 68 = .ok (.iastore, 1) := by decide +kernel
theorem dX0_changeAll_69 : decode cX0_changeAll 69 = .ok (.aload_n 0, 1) := by decide +kernel
theorem dX0_changeAll_70 : decode cX0_changeAll 70 = .ok (.getfield 43, 3) := by decide +kernel
theorem dX0_changeAll_73 : decode cX0_changeAll 73 = .ok (.iload_n 3, 1) := by decide +kernel
theorem dX0_changeAll_74 : decode cX0_changeAll 74 = .ok (.iload_n 1, 1) := by decide +kernel
theorem dX0_changeAll_75 : decode cX0_changeAll 75 = .ok (.iastore, 1) := by decide +kernel
theorem dX0_changeAll_76 : decode cX0_changeAll 76 = .ok (.aload_n 0, 1) := by decide +kernel
theorem dX0_changeAll_77 : decode cX0_changeAll 77 = .ok (.getfield 21, 3) := by decide +kernel
theorem dX0_changeAll_80 : decode cX0_changeAll 80 = .ok (.aload_n 0, 1) := by decide +kernel
theorem dX0_changeAll_81 : decode cX0_changeAll 81 = .ok (.getfield 21, 3) := by decide +kernel
theorem dX0_changeAll_84 : decode cX0_changeAll 84 = .ok (.getfield 87, 3) := by decide +kernel
theorem dX0_changeAll_87 : decode cX0_changeAll 87 = .ok (.aload_n 0, 1) := by decide +kernel
theorem dX0_changeAll_88 : decode cX0_changeAll 88 = .ok (.getfield 12, 3) := by decide +kernel
theorem dX0_changeAll_91 : decode cX0_changeAll 91 = .ok (.getfield 111, 3) := by decide +kernel
theorem dX0_changeAll_94 : decode cX0_changeAll 94 = .ok (.iload_n 3, 1) := by decide +kernel
theorem dX0_changeAll_95 : decode cX0_changeAll 95 = .ok (.iaload, 1) := by decide +kernel
theorem dX0_changeAll_96 : decode cX0_changeAll 96 = .ok (.iaload, 1) := by decide +kernel
theorem dX0_changeAll_97 : decode cX0_changeAll 97 = .ok (.iload_n 3, 1) := by decide +kernel
theorem dX0_changeAll_98 : decode cX0_changeAll 98 = .ok (.invokevirtual 144, 3) := by decide +kernel
theorem dX0_changeAll_101 : decode cX0_changeAll 101 = .ok (.goto 24, 3) := by decide +kernel
theorem dX0_changeAll_104 : decode cX0_changeAll 104 = .ok (.aload_n 0, 1) := by decide +kernel
theorem dX0_changeAll_105 : decode cX0_changeAll 105 = .ok (.getfield 65, 3) := by decide +kernel
theorem dX0_changeAll_108 : decode cX0_changeAll 108 = .ok (.iload_n 3, 1) := by decide +kernel
theorem dX0_changeAll_109 : decode cX0_changeAll 109 = .ok (.invokestatic 94, 3) := by decide +kernel
theorem dX0_changeAll_112 : decode cX0_changeAll 112 = .ok (.ifCond .eq 13, 3) := by decide +kernel
theorem dX0_changeAll_115 : decode cX0_changeAll 115 = .ok (.aload_n 0, 1) := by decide +kernel
theorem dX0_changeAll_116 : decode cX0_changeAll 116 = .ok (.getfield 40, 3) := by decide +kernel
theorem dX0_changeAll_119 : decode cX0_changeAll 119 = .ok (.iload_n 3, 1) := by decide +kernel
theorem dX0_changeAll_120 : decode cX0_changeAll 120 = .ok (.aload_n 0, 1) := by decide +kernel
theorem dX0_changeAll_121 : decode cX0_changeAll 121 = .ok (.getfield 71, 3) := by decide +kernel
theorem dX0_changeAll_124 : decode cX0_changeAll 124 = .ok (.iastore, 1) := by decide +kernel
theorem dX0_changeAll_125 : decode cX0_changeAll 125 = .ok (.iinc 3 1, 3) := by decide +kernel
theorem dX0_changeAll_128 : decode cX0_changeAll 128 = .ok (.goto (-86), 3) := by decide +kernel
theorem dX0_changeAll_131 : decode cX0_changeAll 131 = .ok (.aload_n 0, 1) := by decide +kernel
theorem dX0_changeAll_132 : decode cX0_changeAll 132 = .ok (.iload_n 2, 1) := by decide +kernel
theorem dX0_changeAll_133 : decode cX0_changeAll 133 = .ok (.invokevirtual 148, 3) := by decide +kernel
theorem dX0_changeAll_136 : decode cX0_changeAll 136 = .ok (.aload_n 0, 1) := by decide +kernel
theorem dX0_changeAll_137 : decode cX0_changeAll 137 = .ok (.dup, 1) := by decide +kernel
theorem dX0_changeAll_138 : decode cX0_changeAll 138 = .ok (.getfield 68, 3) := by decide +kernel
theorem dX0_changeAll_141 : decode cX0_changeAll 141 = .ok (.aload_n 0, 1) := by decide +kernel
theorem dX0_changeAll_142 : decode cX0_changeAll 142 = .ok (.getfield 62, 3) := by decide +kernel
theorem dX0_changeAll_145 : decode cX0_changeAll 145 = .ok (.aload_n 0, 1) := by decide +kernel
theorem dX0_changeAll_146 : decode cX0_changeAll 146 = .ok (.getfield 65, 3) := by decide +kernel
theorem dX0_changeAll_149 : decode cX0_changeAll 149 = .ok (.ior, 1) := by decide +kernel
theorem dX0_changeAll_150 : decode cX0_changeAll 150 = .ok (.iconst (-1), 1) := by decide +kernel
theorem dX0_changeAll_151 : decode cX0_changeAll 151 = .ok (.ixor, 1) := by decide +kernel
theorem dX0_changeAll_152 : decode cX0_changeAll 152 = .ok (.iand, 1) := by decide +kernel
theorem dX0_changeAll_153 : decode cX0_changeAll 153 = .ok (.putfield 68, 3) := by decide +kernel
theorem dX0_changeAll_156 : decode cX0_changeAll 156 = .ok (.aload_n 0, 1) := by decide +kernel
theorem dX0_changeAll_157 : decode cX0_changeAll 157 = .ok (.iconst 0, 1) := by decide +kernel
theorem dX0_changeAll_158 : decode cX0_changeAll 158 = .ok (.putfield 62, 3) := by decide +kernel
theorem dX0_changeAll_161 : decode cX0_changeAll 161 = .ok (.aload_n 0, 1) := by decide +kernel
theorem dX0_changeAll_162 : decode cX0_changeAll 162 = .ok (.iconst 0, 1) := by decide +kernel
theorem dX0_changeAll_163 : decode cX0_changeAll 163 = .ok (.putfield 65, 3) := by decide +kernel
theorem dX0_changeAll_166 : decode cX0_changeAll 166 = .ok (.aload_n 0, 1) := by decide +kernel
theorem dX0_changeAll_167 : decode cX0_changeAll 167 = .ok (.dup, 1) := by decide +kernel
theorem dX0_changeAll_168 : decode cX0_changeAll 168 = .ok (.getfield 71, 3) := by decide +kernel
theorem dX0_changeAll_171 : decode cX0_changeAll 171 = .ok (.iconst 1, 1) := by decide +kernel
theorem dX0_changeAll_172 : decode cX0_changeAll 172 = .ok (.iadd, 1) := by decide +kernel
theorem dX0_changeAll_173 : decode cX0_changeAll 173 = .ok (.putfield 71, 3) := by decide +kernel
theorem dX0_changeAll_176 : decode cX0_changeAll 176 = .ok (.aload_n 0, 1) := by decide +kernel
theorem dX0_changeAll_177 : decode cX0_changeAll 177 = .ok (.invokevirtual 151, 3) := by decide +kernel
theorem dX0_changeAll_180 : decode cX0_changeAll 180 = .ok (.aload_n 0, 1) := by decide +kernel
theorem dX0_changeAll_181 : decode cX0_changeAll 181 = .ok (.getfield 28, 3) := by decide +kernel
theorem dX0_changeAll_184 : decode cX0_changeAll 184 = .ok (.getfield 84, 3) := by decide +kernel
theorem dX0_changeAll_187 : decode cX0_changeAll 187 = .ok (.iload_n 1, 1) := by decide +kernel
theorem dX0_changeAll_188 : decode cX0_changeAll 188 = .ok (.isub, 1) := by decide +kernel
theorem dX0_changeAll_189 : decode cX0_changeAll 189 = .ok (.ireturn, 1) := by decide +kernel
theorem dX0_tellChanged_0 : decode cX0_tellChanged 0 = .ok (.bipush 15, 2) := by decide +kernel
theorem dX0_tellChanged_2 : decode cX0_tellChanged 2 = .ok (.istore_n 2, 1) := by decide +kernel
theorem dX0_tellChanged_3 : decode cX0_tellChanged 3 = .ok (.iload_n 2, 1) := by decide +kernel
theorem dX0_tellChanged_4 : decode cX0_tellChanged 4 = .ok (.iconst 1, 1) := by decide +kernel
theorem dX0_tellChanged_5 : decode cX0_tellChanged 5 = .ok (.if_icmp .lt 35, 3) := by decide +kernel
theorem dX0_tellChanged_8 : decode cX0_tellChanged 8 = .ok (.iload_n 1, 1) := by decide +kernel
theorem dX0_tellChanged_9 : decode cX0_tellChanged 9 = .ok (.iload_n 2, 1) := by decide +kernel
theorem dX0_tellChanged_10 : decode cX0_tellChanged 10 = .ok (.invokestatic 94, 3) := by decide +kernel
theorem dX0_tellChanged_13 : decode cX0_tellChanged 13 = .ok (.ifCond .eq 21, 3) := by decide +kernel
theorem dX0_tellChanged_16 : decode cX0_tellChanged 16 = .ok (.aload_n 0, 1) := by decide +kernel
theorem dX0_tellChanged_17 : decode cX0_tellChanged 17 = .ok (.iload_n 2, 1) := by decide +kernel
theorem dX0_tellChanged_18 : decode cX0_tellChanged 18 = .ok (.iconst 2, 1) := by decide +kernel
theorem dX0_tellChanged_19 : decode cX0_tellChanged 19 = .ok (.iload_n 2, 1) := by decide +kernel
theorem dX0_tellChanged_20 : decode cX0_tellChanged 20 = .ok (.imul, 1) := by decide +kernel
theorem dX0_tellChanged_21 : decode cX0_tellChanged 21 = .ok (.invokevirtual 154, 3) := by decide +kernel
theorem dX0_tellChanged_24 : decode cX0_tellChanged 24 = .ok (.aload_n 0, 1) := by decide +kernel
theorem dX0_tellChanged_25 : decode cX0_tellChanged 25 = .ok (.iload_n 2, 1) := by decide +kernel
theorem dX0_tellChanged_26 : decode cX0_tellChanged 26 = .ok (.iconst 2, 1) := by decide +kernel
theorem dX0_tellChanged_27 : decode cX0_tellChanged 27 = .ok (.iload_n 2, 1) := by decide +kernel
theorem dX0_tellChanged_28 : decode cX0_tellChanged 28 = .ok (.imul, 1) := by decide +kernel
theorem dX0_tellChanged_29 : decode cX0_tellChanged 29 = .ok (.iconst 1, 1) := by decide +kernel
theorem dX0_tellChanged_30 : decode cX0_tellChanged 30 = .ok (.iadd, 1) := by decide +kernel
theorem dX0_tellChanged_31 : decode cX0_tellChanged 31 = .ok (.invokevirtual 154, 3) := by decide +kernel
theorem dX0_tellChanged_34 : decode cX0_tellChanged 34 = .ok (.iinc 2 (-1), 3) := by decide +kernel
theorem dX0_tellChanged_37 : decode cX0_tellChanged 37 = .ok (.goto (-34), 3) := by decide +kernel
theorem dX0_tellChanged_40 : decode cX0_tellChanged 40 = .ok (.return_, 1) := by decide +kernel
theorem dX0_tell_0 : decode cX0_tell 0 = .ok (.aload_n 0, 1) := by decide +kernel
theorem dX0_tell_1 : decode cX0_tell 1 = .ok (.getfield 12, 3) := by decide +kernel
theorem dX0_tell_4 : decode cX0_tell 4 = .ok (.iload_n 2, 1) := by decide +kernel
theorem dX0_tell_5 : decode cX0_tell 5 = .ok (.invokevirtual 157, 3) := by decide +kernel
theorem dX0_tell_8 : decode cX0_tell 8 = .ok (.ifCond .eq 32, 3) := by decide +kernel
theorem dX0_tell_11 : decode cX0_tell 11 = .ok (.aload_n 0, 1) := by decide +kernel
theorem dX0_tell_12 : decode cX0_tell 12 = .ok (.getfield 28, 3) := by decide +kernel
theorem dX0_tell_15 : decode cX0_tell 15 = .ok (.aload_n 0, 1) := by decide +kernel
theorem dX0_tell_16 : decode cX0_tell 16 = .ok (.getfield 21, 3) := by decide +kernel
theorem dX0_tell_19 : decode cX0_tell 19 = .ok (.getfield 87, 3) := by decide +kernel
theorem dX0_tell_22 : decode cX0_tell 22 = .ok (.iload_n 1, 1) := by decide +kernel
theorem dX0_tell_23 : decode cX0_tell 23 = .ok (.iaload, 1) := by decide +kernel
theorem dX0_tell_24 : decode cX0_tell 24 = .ok (.aload_n 0, 1) := by decide +kernel
theorem dX0_tell_25 : decode cX0_tell 25 = .ok (.getfield 21, 3) := by decide +kernel
theorem dX0_tell_28 : decode cX0_tell 28 = .ok (.getfield 87, 3) := by decide +kernel
theorem dX0_tell_31 : decode cX0_tell 31 = .ok (.iload_n 2, 1) := by decide +kernel
theorem dX0_tell_32 : decode cX0_tell 32 = .ok (.iaload, 1) := by decide +kernel
theorem dX0_tell_33 : decode cX0_tell 33 = .ok (.aload_n 0, 1) := by decide +kernel
theorem dX0_tell_34 : decode cX0_tell 34 = .ok (.getfield 71, 3) := by decide +kernel
theorem dX0_tell_37 : decode cX0_tell 37 = .ok (.invokevirtual 160, 3) := by decide +kernel
theorem dX0_tell_40 : decode cX0_tell 40 = .ok (.return_, 1) := by decide +kernel
theorem dX0_readByAll_0 : decode cX0_readByAll 0 = .ok (.iconst 0, 1) := by decide +kernel
theorem dX0_readByAll_1 : decode cX0_readByAll 1 = .ok (.istore_n 1, 1) := by decide +kernel
theorem dX0_readByAll_2 : decode cX0_readByAll 2 = .ok (.iload_n 1, 1) := by decide +kernel
theorem dX0_readByAll_3 : decode cX0_readByAll 3 = .ok (.bipush 16, 2) := by decide +kernel
theorem dX0_readByAll_5 : decode cX0_readByAll 5 = .ok (.if_icmp .ge 23, 3) := by decide +kernel
theorem dX0_readByAll_8 : decode cX0_readByAll 8 = .ok (.aload_n 0, 1) := by decide +kernel
theorem dX0_readByAll_9 : decode cX0_readByAll 9 = .ok (.iload_n 1, 1) := by decide +kernel
theorem dX0_readByAll_10 : decode cX0_readByAll 10 = .ok (.invokevirtual 102, 3) := by decide +kernel
theorem dX0_readByAll_13 : decode cX0_readByAll 13 = .ok (.ifCond .eq 9, 3) := by decide +kernel
theorem dX0_readByAll_16 : decode cX0_readByAll 16 = .ok (.aload_n 0, 1) := by decide +kernel
theorem dX0_readByAll_17 : decode cX0_readByAll 17 = .ok (.iload_n 1, 1) := by decide +kernel
theorem dX0_readByAll_18 : decode cX0_readByAll 18 = .ok (.invokevirtual 164, 3) := by decide +kernel
theorem dX0_readByAll_21 : decode cX0_readByAll 21 = .ok (.pop, 1) := by decide +kernel
theorem dX0_readByAll_22 : decode cX0_readByAll 22 = .ok (.iinc 1 1, 3) := by decide +kernel
theorem dX0_readByAll_25 : decode cX0_readByAll 25 = .ok (.goto (-23), 3) := by decide +kernel
theorem dX0_readByAll_28 : decode cX0_readByAll 28 = .ok (.return_, 1) := by decide +kernel
theorem dX0_readUnread_0 : decode cX0_readUnread 0 = .ok (.iconst 0, 1) := by decide +kernel
theorem dX0_readUnread_1 : decode cX0_readUnread 1 = .ok (.istore_n 2, 1) := by decide +kernel
theorem dX0_readUnread_2 : decode cX0_readUnread 2 = .ok (.aload_n 0, 1) := by decide +kernel
theorem dX0_readUnread_3 : decode cX0_readUnread 3 = .ok (.getfield 43, 3) := by decide +kernel
theorem dX0_readUnread_6 : decode cX0_readUnread 6 = .ok (.iload_n 1, 1) := by decide +kernel
theorem dX0_readUnread_7 : decode cX0_readUnread 7 = .ok (.iaload, 1) := by decide +kernel
theorem dX0_readUnread_8 : decode cX0_readUnread 8 = .ok (.istore_n 3, 1) := by decide +kernel
theorem dX0_readUnread_9 : decode cX0_readUnread 9 = .ok (.iload_n 3, 1) := by decide +kernel
theorem dX0_readUnread_10 : decode cX0_readUnread 10 = .ok (.aload_n 0, 1) := by decide +kernel
theorem dX0_readUnread_11 : decode cX0_readUnread 11 = .ok (.getfield 28, 3) := by decide +kernel
theorem dX0_readUnread_14 : decode cX0_readUnread 14 = .ok (.getfield 84, 3) := by decide +kernel
theorem dX0_readUnread_17 : decode cX0_readUnread 17 = .ok (.if_icmp .ge 66, 3) := by decide +kernel
theorem dX0_readUnread_20 : decode cX0_readUnread 20 = .ok (.aload_n 0, 1) := by decide +kernel
theorem dX0_readUnread_21 : decode cX0_readUnread 21 = .ok (.getfield 28, 3) := by decide +kernel
theorem dX0_readUnread_24 : decode cX0_readUnread 24 = .ok (.getfield 168, 3) := by decide +kernel
theorem dX0_readUnread_27 : decode cX0_readUnread 27 = .ok (.iload_n 3, 1) := by decide +kernel
theorem dX0_readUnread_28 : decode cX0_readUnread 28 = .ok (.iaload, 1) := by decide +kernel
theorem dX0_readUnread_29 : decode cX0_readUnread 29 = .ok (.istore 4, 2) := by decide +kernel
theorem dX0_readUnread_31 : decode cX0_readUnread 31 = .ok (.aload_n 0, 1) := by decide +kernel
theorem dX0_readUnread_32 : decode cX0_readUnread 32 = .ok (.getfield 21, 3) := by decide +kernel
theorem dX0_readUnread_35 : decode cX0_readUnread 35 = .ok (.aload_n 0, 1) := by decide +kernel
theorem dX0_readUnread_36 : decode cX0_readUnread 36 = .ok (.getfield 28, 3) := by decide +kernel
theorem dX0_readUnread_39 : decode cX0_readUnread 39 = .ok (.getfield 171, 3) := by decide +kernel
theorem dX0_readUnread_42 : decode cX0_readUnread 42 = .ok (.iload_n 3, 1) := by decide +kernel
theorem dX0_readUnread_43 : decode cX0_readUnread 43 = .ok (.iaload, 1) := by decide +kernel
theorem dX0_readUnread_44 : decode cX0_readUnread 44 = .ok (.iload_n 1, 1) := by decide +kernel
theorem dX0_readUnread_45 : decode cX0_readUnread 45 = .ok (.invokevirtual 114, 3) := by decide +kernel
theorem dX0_readUnread_48 : decode cX0_readUnread 48 = .ok (.ifCond .eq 29, 3) := by decide +kernel
theorem dX0_readUnread_51 : decode cX0_readUnread 51 = .ok (.aload_n 0, 1) := by decide +kernel
theorem dX0_readUnread_52 : decode cX0_readUnread 52 = .ok (.getfield 21, 3) := by decide +kernel
theorem dX0_readUnread_55 : decode cX0_readUnread 55 = .ok (.iload 4, 2) := by decide +kernel
theorem dX0_readUnread_57 : decode cX0_readUnread 57 = .ok (.iload_n 1, 1) := by decide +kernel
theorem dX0_readUnread_58 : decode cX0_readUnread 58 = .ok (.invokevirtual 114, 3) := by decide +kernel
theorem dX0_readUnread_61 : decode cX0_readUnread 61 = .ok (.ifCond .ne 16, 3) := by decide +kernel
theorem dX0_readUnread_64 : decode cX0_readUnread 64 = .ok (.aload_n 0, 1) := by decide +kernel
theorem dX0_readUnread_65 : decode cX0_readUnread 65 = .ok (.getfield 21, 3) := by decide +kernel
theorem dX0_readUnread_68 : decode cX0_readUnread 68 = .ok (.iload 4, 2) := by decide +kernel
theorem dX0_readUnread_70 : decode cX0_readUnread 70 = .ok (.iload_n 1, 1) := by decide +kernel
theorem dX0_readUnread_71 : decode cX0_readUnread 71 = .ok (.invokevirtual 144, 3) := by decide +kernel
theorem dX0_readUnread_74 : decode cX0_readUnread 74 = .ok (.iinc 2 1, 3) := by decide +kernel
theorem dX0_readUnread_77 : decode cX0_readUnread 77 = .ok (.iinc 3 1, 3) := by decide +kernel
theorem dX0_readUnread_80 : decode cX0_readUnread 80 = .ok (.goto (-71), 3) := by decide +kernel
theorem dX0_readUnread_83 : decode cX0_readUnread 83 = .ok (.aload_n 0, 1) := by decide +kernel
theorem dX0_readUnread_84 : decode cX0_readUnread 84 = .ok (.getfield 43, 3) := by decide +kernel
theorem dX0_readUnread_87 : decode cX0_readUnread 87 = .ok (.iload_n 1, 1) := by decide +kernel
theorem dX0_readUnread_88 : decode cX0_readUnread 88 = .ok (.aload_n 0, 1) := by decide +kernel
theorem dX0_readUnread_89 : decode cX0_readUnread 89 = .ok (.getfield 28, 3) := by decide +kernel
theorem dX0_readUnread_92 : decode cX0_readUnread 92 = .ok (.getfield 84, 3) := by decide +kernel
theorem dX0_readUnread_95 : decode cX0_readUnread 95 = .ok (.iastore, 1) := by decide +kernel
theorem dX0_readUnread_96 : decode cX0_readUnread 96 = .ok (.iload_n 2, 1) := by decide +kernel
theorem dX0_readUnread_97 : decode cX0_readUnread 97 = .ok (.ireturn, 1) := by decide +kernel
theorem dX0_fallAsleep_0 : decode cX0_fallAsleep 0 = .ok (.aload_n 0, 1) := by decide +kernel
theorem dX0_fallAsleep_1 : decode cX0_fallAsleep 1 = .ok (.dup, 1) := by decide +kernel
theorem dX0_fallAsleep_2 : decode cX0_fallAsleep 2 = .ok (.getfield 68, 3) := by decide +kernel
theorem dX0_fallAsleep_5 : decode cX0_fallAsleep 5 = .ok (.iconst 1, 1) := by decide +kernel
theorem dX0_fallAsleep_6 : decode cX0_fallAsleep 6 = .ok (.iload_n 1, 1) := by decide +kernel
theorem dX0_fallAsleep_7 : decode cX0_fallAsleep 7 = .ok (.ishl, 1) := by decide +kernel
theorem dX0_fallAsleep_8 : decode cX0_fallAsleep 8 = .ok (.ior, 1) := by decide +kernel
theorem dX0_fallAsleep_9 : decode cX0_fallAsleep 9 = .ok (.putfield 68, 3) := by decide +kernel
theorem dX0_fallAsleep_12 : decode cX0_fallAsleep 12 = .ok (.iconst 0, 1) := by decide +kernel
theorem dX0_fallAsleep_13 : decode cX0_fallAsleep 13 = .ok (.ireturn, 1) := by decide +kernel
theorem dX0_wakeUp_0 : decode cX0_wakeUp 0 = .ok (.aload_n 0, 1) := by decide +kernel
theorem dX0_wakeUp_1 : decode cX0_wakeUp 1 = .ok (.dup, 1) := by decide +kernel
theorem dX0_wakeUp_2 : decode cX0_wakeUp 2 = .ok (.getfield 68, 3) := by decide +kernel
theorem dX0_wakeUp_5 : decode cX0_wakeUp 5 = .ok (.iconst 1, 1) := by decide +kernel
theorem dX0_wakeUp_6 : decode cX0_wakeUp 6 = .ok (.iload_n 1, 1) := by decide +kernel
theorem dX0_wakeUp_7 : decode cX0_wakeUp 7 = .ok (.ishl, 1) := by decide +kernel
theorem dX0_wakeUp_8 : decode cX0_wakeUp 8 = .ok (.iconst (-1), 1) := by decide +kernel
theorem dX0_wakeUp_9 : decode cX0_wakeUp 9 = .ok (.ixor, 1) := by decide +kernel
theorem dX0_wakeUp_10 : decode cX0_wakeUp 10 = .ok (.iand, 1) := by decide +kernel
theorem dX0_wakeUp_11 : decode cX0_wakeUp 11 = .ok (.putfield 68, 3) := by decide +kernel
theorem dX0_wakeUp_14 : decode cX0_wakeUp 14 = .ok (.aload_n 0, 1) := by decide +kernel
theorem dX0_wakeUp_15 : decode cX0_wakeUp 15 = .ok (.iload_n 1, 1) := by decide +kernel
theorem dX0_wakeUp_16 : decode cX0_wakeUp 16 = .ok (.invokevirtual 164, 3) := by decide +kernel
theorem dX0_wakeUp_19 : decode cX0_wakeUp 19 = .ok (.ireturn, 1) := by decide +kernel
theorem dX0_loseLetters_0 : decode cX0_loseLetters 0 = .ok (.iload_n 2, 1) := by decide +kernel
theorem dX0_loseLetters_1 : decode cX0_loseLetters 1 = .ok (.aload_n 0, 1) := by decide +kernel
theorem dX0_loseLetters_2 : decode cX0_loseLetters 2 = .ok (.iload_n 1, 1) := by decide +kernel
theorem dX0_loseLetters_3 : decode cX0_loseLetters 3 = .ok (.invokevirtual 174, 3) := by decide +kernel
theorem dX0_loseLetters_6 : decode cX0_loseLetters 6 = .ok (.invokestatic 177, 3) := by decide +kernel
theorem dX0_loseLetters_9 : decode cX0_loseLetters 9 = .ok (.istore_n 3, 1) := by decide +kernel
theorem dX0_loseLetters_10 : decode cX0_loseLetters 10 = .ok (.aload_n 0, 1) := by decide +kernel
theorem dX0_loseLetters_11 : decode cX0_loseLetters 11 = .ok (.getfield 43, 3) := by decide +kernel
theorem dX0_loseLetters_14 : decode cX0_loseLetters 14 = .ok (.iload_n 1, 1) := by decide +kernel
theorem dX0_loseLetters_15 : decode cX0_loseLetters 15 = .ok (.dup2, 1) := by decide +kernel
theorem dX0_loseLetters_16 : decode cX0_loseLetters 16 = .ok (.iaload, 1) := by decide +kernel
theorem dX0_loseLetters_17 : decode cX0_loseLetters 17 = .ok (.iload_n 3, 1) := by decide +kernel
theorem dX0_loseLetters_18 : decode cX0_loseLetters 18 = .ok (.iadd, 1) := by decide +kernel
theorem dX0_loseLetters_19 : decode cX0_loseLetters 19 = .ok (.iastore, 1) := by decide +kernel
theorem dX0_loseLetters_20 : decode cX0_loseLetters 20 = .ok (.iload_n 3, 1) := by decide +kernel
theorem dX0_loseLetters_21 : decode cX0_loseLetters 21 = .ok (.ireturn, 1) := by decide +kernel
theorem dX0_mendKeys_0 : decode cX0_mendKeys 0 = .ok (.aload_n 0, 1) := by decide +kernel
theorem dX0_mendKeys_1 : decode cX0_mendKeys 1 = .ok (.getfield 28, 3) := by decide +kernel
theorem dX0_mendKeys_4 : decode cX0_mendKeys 4 = .ok (.getfield 84, 3) := by decide +kernel
theorem dX0_mendKeys_7 : decode cX0_mendKeys 7 = .ok (.istore_n 2, 1) := by decide +kernel
theorem dX0_mendKeys_8 : decode cX0_mendKeys 8 = .ok (.aload_n 0, 1) := by decide +kernel
theorem dX0_mendKeys_9 : decode cX0_mendKeys 9 = .ok (.getfield 12, 3) := by decide +kernel
theorem dX0_mendKeys_12 : decode cX0_mendKeys 12 = .ok (.getfield 111, 3) := by decide +kernel
theorem dX0_mendKeys_15 : decode cX0_mendKeys 15 = .ok (.iload_n 1, 1) := by decide +kernel
theorem dX0_mendKeys_16 : decode cX0_mendKeys 16 = .ok (.iaload, 1) := by decide +kernel
theorem dX0_mendKeys_17 : decode cX0_mendKeys 17 = .ok (.istore_n 3, 1) := by decide +kernel
theorem dX0_mendKeys_18 : decode cX0_mendKeys 18 = .ok (.iload_n 3, 1) := by decide +kernel
theorem dX0_mendKeys_19 : decode cX0_mendKeys 19 = .ok (.iconst 2, 1) := by decide +kernel
theorem dX0_mendKeys_20 : decode cX0_mendKeys 20 = .ok (.idiv, 1) := by decide +kernel
theorem dX0_mendKeys_21 : decode cX0_mendKeys 21 = .ok (.istore 4, 2) := by decide +kernel
theorem dX0_mendKeys_23 : decode cX0_mendKeys 23 = .ok (.iload 4, 2) := by decide +kernel
theorem dX0_mendKeys_25 : decode cX0_mendKeys 25 = .ok (.iconst 1, 1) := by decide +kernel
theorem dX0_mendKeys_26 : decode cX0_mendKeys 26 = .ok (.if_icmp .lt 57, 3) := by decide +kernel
theorem dX0_mendKeys_29 : decode cX0_mendKeys 29 = .ok (.aload_n 0, 1) := by decide +kernel
theorem dX0_mendKeys_30 : decode cX0_mendKeys 30 = .ok (.getfield 21, 3) := by decide +kernel
theorem dX0_mendKeys_33 : decode cX0_mendKeys 33 = .ok (.getfield 87, 3) := by decide +kernel
theorem dX0_mendKeys_36 : decode cX0_mendKeys 36 = .ok (.iload 4, 2) := by decide +kernel
theorem dX0_mendKeys_38 : decode cX0_mendKeys 38 = .ok (.iaload, 1) := by decide +kernel
theorem dX0_mendKeys_39 : decode cX0_mendKeys 39 = .ok (.istore 5, 2) := by decide +kernel
theorem dX0_mendKeys_41 : decode cX0_mendKeys 41 = .ok (.aload_n 0, 1) := by decide +kernel
theorem dX0_mendKeys_42 : decode cX0_mendKeys 42 = .ok (.getfield 21, 3) := by decide +kernel
theorem dX0_mendKeys_45 : decode cX0_mendKeys 45 = .ok (.iload 5, 2) := by decide +kernel
theorem dX0_mendKeys_47 : decode cX0_mendKeys 47 = .ok (.iload_n 1, 1) := by decide +kernel
theorem dX0_mendKeys_48 : decode cX0_mendKeys 48 = .ok (.invokevirtual 114, 3) := by decide +kernel
theorem dX0_mendKeys_51 : decode cX0_mendKeys 51 = .ok (.ifCond .ne 23, 3) := by decide +kernel
theorem dX0_mendKeys_54 : decode cX0_mendKeys 54 = .ok (.aload_n 0, 1) := by decide +kernel
theorem dX0_mendKeys_55 : decode cX0_mendKeys 55 = .ok (.getfield 28, 3) := by decide +kernel
theorem dX0_mendKeys_58 : decode cX0_mendKeys 58 = .ok (.iload 5, 2) := by decide +kernel
theorem dX0_mendKeys_60 : decode cX0_mendKeys 60 = .ok (.aload_n 0, 1) := by decide +kernel
theorem dX0_mendKeys_61 : decode cX0_mendKeys 61 = .ok (.getfield 21, 3) := by decide +kernel
theorem dX0_mendKeys_64 : decode cX0_mendKeys 64 = .ok (.getfield 87, 3) := by decide +kernel
theorem dX0_mendKeys_67 : decode cX0_mendKeys 67 = .ok (.iload_n 3, 1) := by decide +kernel
theorem dX0_mendKeys_68 : decode cX0_mendKeys 68 = .ok (.iaload, 1) := by decide +kernel
theorem dX0_mendKeys_69 : decode cX0_mendKeys 69 = .ok (.bipush (-4), 2) := by decide +kernel
theorem dX0_mendKeys_71 : decode cX0_mendKeys 71 = .ok (.invokevirtual 160, 3) := by decide +kernel
theorem dX0_mendKeys_74 : decode cX0_mendKeys 74 = .ok (.iload 4, 2) := by decide +kernel
theorem dX0_mendKeys_76 : decode cX0_mendKeys 76 = .ok (.iconst 2, 1) := by decide +kernel
theorem dX0_mendKeys_77 : decode cX0_mendKeys 77 = .ok (.idiv, 1) := by decide +kernel
theorem dX0_mendKeys_78 : decode cX0_mendKeys 78 = .ok (.istore 4, 2) := by decide +kernel
theorem dX0_mendKeys_80 : decode cX0_mendKeys 80 = .ok (.goto (-57), 3) := by decide +kernel
theorem dX0_mendKeys_83 : decode cX0_mendKeys 83 = .ok (.aload_n 0, 1) := by decide +kernel
theorem dX0_mendKeys_84 : decode cX0_mendKeys 84 = .ok (.invokevirtual 151, 3) := by decide +kernel
theorem dX0_mendKeys_87 : decode cX0_mendKeys 87 = .ok (.aload_n 0, 1) := by decide +kernel
theorem dX0_mendKeys_88 : decode cX0_mendKeys 88 = .ok (.getfield 28, 3) := by decide +kernel
theorem dX0_mendKeys_91 : decode cX0_mendKeys 91 = .ok (.getfield 84, 3) := by decide +kernel
theorem dX0_mendKeys_94 : decode cX0_mendKeys 94 = .ok (.iload_n 2, 1) := by decide +kernel
theorem dX0_mendKeys_95 : decode cX0_mendKeys 95 = .ok (.isub, 1) := by decide +kernel
theorem dX0_mendKeys_96 : decode cX0_mendKeys 96 = .ok (.ireturn, 1) := by decide +kernel
theorem dX0_whyShut_0 : decode cX0_whyShut 0 = .ok (.aload_n 0, 1) := by decide +kernel
theorem dX0_whyShut_1 : decode cX0_whyShut 1 = .ok (.getfield 21, 3) := by decide +kernel
theorem dX0_whyShut_4 : decode cX0_whyShut 4 = .ok (.iload_n 2, 1) := by decide +kernel
theorem dX0_whyShut_5 : decode cX0_whyShut 5 = .ok (.iload_n 1, 1) := by decide +kernel
theorem dX0_whyShut_6 : decode cX0_whyShut 6 = .ok (.invokevirtual 114, 3) := by decide +kernel
theorem dX0_whyShut_9 : decode cX0_whyShut 9 = .ok (.ifCond .eq 5, 3) := by decide +kernel
theorem dX0_whyShut_12 : decode cX0_whyShut 12 = .ok (.iconst 0, 1) := by decide +kernel
theorem dX0_whyShut_13 : decode cX0_whyShut 13 = .ok (.ireturn, 1) := by decide +kernel
theorem dX0_whyShut_14 : decode cX0_whyShut 14 = .ok (.aload_n 0, 1) := by decide +kernel
theorem dX0_whyShut_15 : decode cX0_whyShut 15 = .ok (.getfield 36, 3) := by decide +kernel
theorem dX0_whyShut_18 : decode cX0_whyShut 18 = .ok (.iload_n 1, 1) := by decide +kernel
theorem dX0_whyShut_19 : decode cX0_whyShut 19 = .ok (.iaload, 1) := by decide +kernel
theorem dX0_whyShut_20 : decode cX0_whyShut 20 = .ok (.iconst (-1), 1) := by decide +kernel
theorem dX0_whyShut_21 : decode cX0_whyShut 21 = .ok (.if_icmp .ne 5, 3) := by decide +kernel
theorem dX0_whyShut_24 : decode cX0_whyShut 24 = .ok (.iconst 1, 1) := by decide +kernel
theorem dX0_whyShut_25 : decode cX0_whyShut 25 = .ok (.ireturn, 1) := by decide +kernel
theorem dX0_whyShut_26 : decode cX0_whyShut 26 = .ok (.aload_n 0, 1) := by decide +kernel
theorem dX0_whyShut_27 : decode cX0_whyShut 27 = .ok (.getfield 21, 3) := by decide +kernel
theorem dX0_whyShut_30 : decode cX0_whyShut 30 = .ok (.iload_n 2, 1) := by decide +kernel
theorem dX0_whyShut_31 : decode cX0_whyShut 31 = .ok (.invokevirtual 182, 3) := by decide +kernel
theorem dX0_whyShut_34 : decode cX0_whyShut 34 = .ok (.aload_n 0, 1) := by decide +kernel
theorem dX0_whyShut_35 : decode cX0_whyShut 35 = .ok (.getfield 36, 3) := by decide +kernel
theorem dX0_whyShut_38 : decode cX0_whyShut 38 = .ok (.iload_n 1, 1) := by decide +kernel
theorem dX0_whyShut_39 : decode cX0_whyShut 39 = .ok (.iaload, 1) := by decide +kernel
theorem dX0_whyShut_40 : decode cX0_whyShut 40 = .ok (.if_icmp .ge 5, 3) := by decide +kernel
theorem dX0_whyShut_43 : decode cX0_whyShut 43 = .ok (.iconst 2, 1) := by decide +kernel
theorem dX0_whyShut_44 : decode cX0_whyShut 44 = .ok (.ireturn, 1) := by decide +kernel
theorem dX0_whyShut_45 : decode cX0_whyShut 45 = .ok (.aload_n 0, 1) := by decide +kernel
theorem dX0_whyShut_46 : decode cX0_whyShut 46 = .ok (.getfield 12, 3) := by decide +kernel
theorem dX0_whyShut_49 : decode cX0_whyShut 49 = .ok (.iload_n 1, 1) := by decide +kernel
theorem dX0_whyShut_50 : decode cX0_whyShut 50 = .ok (.invokevirtual 90, 3) := by decide +kernel
theorem dX0_whyShut_53 : decode cX0_whyShut 53 = .ok (.ifCond .ne 22, 3) := by decide +kernel
theorem dX0_whyShut_56 : decode cX0_whyShut 56 = .ok (.aload_n 0, 1) := by decide +kernel
theorem dX0_whyShut_57 : decode cX0_whyShut 57 = .ok (.getfield 21, 3) := by decide +kernel
theorem dX0_whyShut_60 : decode cX0_whyShut 60 = .ok (.iload_n 2, 1) := by decide +kernel
theorem dX0_whyShut_61 : decode cX0_whyShut 61 = .ok (.invokevirtual 182, 3) := by decide +kernel
theorem dX0_whyShut_64 : decode cX0_whyShut 64 = .ok (.aload_n 0, 1) := by decide +kernel
theorem dX0_whyShut_65 : decode cX0_whyShut 65 = .ok (.getfield 40, 3) := by decide +kernel
theorem dX0_whyShut_68 : decode cX0_whyShut 68 = .ok (.iload_n 1, 1) := by decide +kernel
theorem dX0_whyShut_69 : decode cX0_whyShut 69 = .ok (.iaload, 1) := by decide +kernel
theorem dX0_whyShut_70 : decode cX0_whyShut 70 = .ok (.if_icmp .lt 5, 3) := by decide +kernel
theorem dX0_whyShut_73 : decode cX0_whyShut 73 = .ok (.iconst 3, 1) := by decide +kernel
theorem dX0_whyShut_74 : decode cX0_whyShut 74 = .ok (.ireturn, 1) := by decide +kernel
theorem dX0_whyShut_75 : decode cX0_whyShut 75 = .ok (.iconst 4, 1) := by decide +kernel
theorem dX0_whyShut_76 : decode cX0_whyShut 76 = .ok (.ireturn, 1) := by decide +kernel
theorem dX0_lettersNeeded_0 : decode cX0_lettersNeeded 0 = .ok (.iconst 0, 1) := by decide +kernel
theorem dX0_lettersNeeded_1 : decode cX0_lettersNeeded 1 = .ok (.istore_n 2, 1) := by decide +kernel
theorem dX0_lettersNeeded_2 : decode cX0_lettersNeeded 2 = .ok (.iconst 0, 1) := by decide +kernel
theorem dX0_lettersNeeded_3 : decode cX0_lettersNeeded 3 = .ok (.istore_n 3, 1) := by decide +kernel
theorem dX0_lettersNeeded_4 : decode cX0_lettersNeeded 4 = .ok (.iload_n 3, 1) := by decide +kernel
theorem dX0_lettersNeeded_5 : decode cX0_lettersNeeded 5 = .ok (.aload_n 0, 1) := by decide +kernel
theorem dX0_lettersNeeded_6 : decode cX0_lettersNeeded 6 = .ok (.getfield 28, 3) := by decide +kernel
theorem dX0_lettersNeeded_9 : decode cX0_lettersNeeded 9 = .ok (.getfield 84, 3) := by decide +kernel
theorem dX0_lettersNeeded_12 : decode cX0_lettersNeeded 12 = .ok (.if_icmp .ge 71, 3) := by decide +kernel
theorem dX0_lettersNeeded_15 : decode cX0_lettersNeeded 15 = .ok (.aload_n 0, 1) := by decide +kernel
theorem dX0_lettersNeeded_16 : decode cX0_lettersNeeded 16 = .ok (.getfield 21, 3) := by decide +kernel
theorem dX0_lettersNeeded_19 : decode cX0_lettersNeeded 19 = .ok (.aload_n 0, 1) := by decide +kernel
theorem dX0_lettersNeeded_20 : decode cX0_lettersNeeded 20 = .ok (.getfield 28, 3) := by decide +kernel
theorem dX0_lettersNeeded_23 : decode cX0_lettersNeeded 23 = .ok (.getfield 171, 3) := by decide +kernel
theorem dX0_lettersNeeded_26 : decode cX0_lettersNeeded 26 = .ok (.iload_n 3, 1) := by decide +kernel
theorem dX0_lettersNeeded_27 : decode cX0_lettersNeeded 27 = .ok (.iaload, 1) := by decide +kernel
theorem dX0_lettersNeeded_28 : decode cX0_lettersNeeded 28 = .ok (.invokevirtual 185, 3) := by decide +kernel
theorem dX0_lettersNeeded_31 : decode cX0_lettersNeeded 31 = .ok (.istore 4, 2) := by decide +kernel
theorem dX0_lettersNeeded_33 : decode cX0_lettersNeeded 33 = .ok (.aload_n 0, 1) := by decide +kernel
theorem dX0_lettersNeeded_34 : decode cX0_lettersNeeded 34 = .ok (.getfield 28, 3) := by decide +kernel
theorem dX0_lettersNeeded_37 : decode cX0_lettersNeeded 37 = .ok (.getfield 188, 3) := by decide +kernel
theorem dX0_lettersNeeded_40 : decode cX0_lettersNeeded 40 = .ok (.iload_n 3, 1) := by decide +kernel
theorem dX0_lettersNeeded_41 : decode cX0_lettersNeeded 41 = .ok (.iaload, 1) := by decide +kernel
theorem dX0_lettersNeeded_42 : decode cX0_lettersNeeded 42 = .ok (.aload_n 0, 1) := by decide +kernel
theorem dX0_lettersNeeded_43 : decode cX0_lettersNeeded 43 = .ok (.getfield 71, 3) := by decide +kernel
theorem dX0_lettersNeeded_46 : decode cX0_lettersNeeded 46 = .ok (.iconst 1, 1) := by decide +kernel
theorem dX0_lettersNeeded_47 : decode cX0_lettersNeeded 47 = .ok (.isub, 1) := by decide +kernel
theorem dX0_lettersNeeded_48 : decode cX0_lettersNeeded 48 = .ok (.if_icmp .ne 29, 3) := by decide +kernel
theorem dX0_lettersNeeded_51 : decode cX0_lettersNeeded 51 = .ok (.iload 4, 2) := by decide +kernel
theorem dX0_lettersNeeded_53 : decode cX0_lettersNeeded 53 = .ok (.iconst 1, 1) := by decide +kernel
theorem dX0_lettersNeeded_54 : decode cX0_lettersNeeded 54 = .ok (.if_icmp .le 23, 3) := by decide +kernel
theorem dX0_lettersNeeded_57 : decode cX0_lettersNeeded 57 = .ok (.aload_n 0, 1) := by decide +kernel
theorem dX0_lettersNeeded_58 : decode cX0_lettersNeeded 58 = .ok (.getfield 12, 3) := by decide +kernel
theorem dX0_lettersNeeded_61 : decode cX0_lettersNeeded 61 = .ok (.getfield 190, 3) := by decide +kernel
theorem dX0_lettersNeeded_64 : decode cX0_lettersNeeded 64 = .ok (.iload 4, 2) := by decide +kernel
theorem dX0_lettersNeeded_66 : decode cX0_lettersNeeded 66 = .ok (.iaload, 1) := by decide +kernel
theorem dX0_lettersNeeded_67 : decode cX0_lettersNeeded 67 = .ok (.iload_n 1, 1) := by decide +kernel
theorem dX0_lettersNeeded_68 : decode cX0_lettersNeeded 68 = .ok (.invokestatic 94, 3) := by decide +kernel
theorem dX0_lettersNeeded_71 : decode cX0_lettersNeeded 71 = .ok (.ifCond .eq 6, 3) := by decide +kernel
theorem dX0_lettersNeeded_74 : decode cX0_lettersNeeded 74 = .ok (.iinc 2 1, 3) := by decide +kernel
theorem dX0_lettersNeeded_77 : decode cX0_lettersNeeded 77 = .ok (.iinc 3 1, 3) := by decide +kernel
theorem dX0_lettersNeeded_80 : decode cX0_lettersNeeded 80 = .ok (.goto (-76), 3) := by decide +kernel
theorem dX0_lettersNeeded_83 : decode cX0_lettersNeeded 83 = .ok (.iload_n 2, 1) := by decide +kernel
theorem dX0_lettersNeeded_84 : decode cX0_lettersNeeded 84 = .ok (.ireturn, 1) := by decide +kernel
theorem dX1_init_0 : decode cX1_init 0 = .ok (.aload_n 0, 1) := by decide +kernel
theorem dX1_init_1 : decode cX1_init 1 = .ok (.invokespecial 3, 3) := by decide +kernel
theorem dX1_init_4 : decode cX1_init 4 = .ok (.aload_n 0, 1) := by decide +kernel
theorem dX1_init_5 : decode cX1_init 5 = .ok (.sipush 232, 3) := by decide +kernel
theorem dX1_init_8 : decode cX1_init 8 = .ok (.newarray .int, 2) := by decide +kernel
theorem dX1_init_10 : decode cX1_init 10 = .ok (.putfield 9, 3) := by decide +kernel
theorem dX1_init_13 : decode cX1_init 13 = .ok (.aload_n 0, 1) := by decide +kernel
theorem dX1_init_14 : decode cX1_init 14 = .ok (.sipush 232, 3) := by decide +kernel
theorem dX1_init_17 : decode cX1_init 17 = .ok (.newarray .int, 2) := by decide +kernel
theorem dX1_init_19 : decode cX1_init 19 = .ok (.putfield 15, 3) := by decide +kernel
theorem dX1_init_22 : decode cX1_init 22 = .ok (.aload_n 0, 1) := by decide +kernel
theorem dX1_init_23 : decode cX1_init 23 = .ok (.sipush 232, 3) := by decide +kernel
theorem dX1_init_26 : decode cX1_init 26 = .ok (.newarray .int, 2) := by decide +kernel
theorem dX1_init_28 : decode cX1_init 28 = .ok (.putfield 18, 3) := by decide +kernel
theorem dX1_init_31 : decode cX1_init 31 = .ok (.aload_n 0, 1) := by decide +kernel
theorem dX1_init_32 : decode cX1_init 32 = .ok (.bipush 32, 2) := by decide +kernel
theorem dX1_init_34 : decode cX1_init 34 = .ok (.newarray .int, 2) := by decide +kernel
theorem dX1_init_36 : decode cX1_init 36 = .ok (.putfield 21, 3) := by decide +kernel
theorem dX1_init_39 : decode cX1_init 39 = .ok (.aload_n 0, 1) := by decide +kernel
theorem dX1_init_40 : decode cX1_init 40 = .ok (.getfield 21, 3) := by decide +kernel
theorem dX1_init_43 : decode cX1_init 43 = .ok (.bipush (-4), 2) := by decide +kernel
theorem dX1_init_45 : decode cX1_init 45 = .ok (.invokestatic 24, 3) := by decide +kernel
theorem dX1_init_48 : decode cX1_init 48 = .ok (.return_, 1) := by decide +kernel
theorem dX1_take_0 : decode cX1_take 0 = .ok (.aload_n 0, 1) := by decide +kernel
theorem dX1_take_1 : decode cX1_take 1 = .ok (.aload_n 1, 1) := by decide +kernel
theorem dX1_take_2 : decode cX1_take 2 = .ok (.getfield 30, 3) := by decide +kernel
theorem dX1_take_5 : decode cX1_take 5 = .ok (.putfield 30, 3) := by decide +kernel
theorem dX1_take_8 : decode cX1_take 8 = .ok (.aload_n 1, 1) := by decide +kernel
theorem dX1_take_9 : decode cX1_take 9 = .ok (.getfield 9, 3) := by decide +kernel
theorem dX1_take_12 : decode cX1_take 12 = .ok (.iconst 0, 1) := by decide +kernel
theorem dX1_take_13 : decode cX1_take 13 = .ok (.aload_n 0, 1) := by decide +kernel
theorem dX1_take_14 : decode cX1_take 14 = .ok (.getfield 9, 3) := by decide +kernel
theorem dX1_take_17 : decode cX1_take 17 = .ok (.iconst 0, 1) := by decide +kernel
theorem dX1_take_18 : decode cX1_take 18 = .ok (.sipush 232, 3) := by decide +kernel
theorem dX1_take_21 : decode cX1_take 21 = .ok (.invokestatic 34, 3) := by decide +kernel
theorem dX1_take_24 : decode cX1_take 24 = .ok (.aload_n 1, 1) := by decide +kernel
theorem dX1_take_25 : decode cX1_take 25 = .ok (.getfield 15, 3) := by decide +kernel
theorem dX1_take_28 : decode cX1_take 28 = .ok (.iconst 0, 1) := by decide +kernel
theorem dX1_take_29 : decode cX1_take 29 = .ok (.aload_n 0, 1) := by decide +kernel
theorem dX1_take_30 : decode cX1_take 30 = .ok (.getfield 15, 3) := by decide +kernel
theorem dX1_take_33 : decode cX1_take 33 = .ok (.iconst 0, 1) := by decide +kernel
theorem dX1_take_34 : decode cX1_take 34 = .ok (.sipush 232, 3) := by decide +kernel
theorem dX1_take_37 : decode cX1_take 37 = .ok (.invokestatic 34, 3) := by decide +kernel
theorem dX1_take_40 : decode cX1_take 40 = .ok (.aload_n 1, 1) := by decide +kernel
theorem dX1_take_41 : decode cX1_take 41 = .ok (.getfield 18, 3) := by decide +kernel
theorem dX1_take_44 : decode cX1_take 44 = .ok (.iconst 0, 1) := by decide +kernel
theorem dX1_take_45 : decode cX1_take 45 = .ok (.aload_n 0, 1) := by decide +kernel
theorem dX1_take_46 : decode cX1_take 46 = .ok (.getfield 18, 3) := by decide +kernel
theorem dX1_take_49 : decode cX1_take 49 = .ok (.iconst 0, 1) := by decide +kernel
theorem dX1_take_50 : decode cX1_take 50 = .ok (.sipush 232, 3) := by decide +kernel
theorem dX1_take_53 : decode cX1_take 53 = .ok (.invokestatic 34, 3) := by decide +kernel
theorem dX1_take_56 : decode cX1_take 56 = .ok (.aload_n 1, 1) := by decide +kernel
theorem dX1_take_57 : decode cX1_take 57 = .ok (.getfield 21, 3) := by decide +kernel
theorem dX1_take_60 : decode cX1_take 60 = .ok (.iconst 0, 1) := by decide +kernel
theorem dX1_take_61 : decode cX1_take 61 = .ok (.aload_n 0, 1) := by decide +kernel
theorem dX1_take_62 : decode cX1_take 62 = .ok (.getfield 21, 3) := by decide +kernel
theorem dX1_take_65 : decode cX1_take 65 = .ok (.iconst 0, 1) := by decide +kernel
theorem dX1_take_66 : decode cX1_take 66 = .ok (.bipush 32, 2) := by decide +kernel
theorem dX1_take_68 : decode cX1_take 68 = .ok (.invokestatic 34, 3) := by decide +kernel
theorem dX1_take_71 : decode cX1_take 71 = .ok (.return_, 1) := by decide +kernel
theorem dX1_clear_0 : decode cX1_clear 0 = .ok (.aload_n 0, 1) := by decide +kernel
theorem dX1_clear_1 : decode cX1_clear 1 = .ok (.iconst 0, 1) := by decide +kernel
theorem dX1_clear_2 : decode cX1_clear 2 = .ok (.putfield 30, 3) := by decide +kernel
theorem dX1_clear_5 : decode cX1_clear 5 = .ok (.aload_n 0, 1) := by decide +kernel
theorem dX1_clear_6 : decode cX1_clear 6 = .ok (.getfield 21, 3) := by decide +kernel
theorem dX1_clear_9 : decode cX1_clear 9 = .ok (.bipush (-4), 2) := by decide +kernel
theorem dX1_clear_11 : decode cX1_clear 11 = .ok (.invokestatic 24, 3) := by decide +kernel
theorem dX1_clear_14 : decode cX1_clear 14 = .ok (.return_, 1) := by decide +kernel
theorem dX1_known_0 : decode cX1_known 0 = .ok (.iload_n 1, 1) := by decide +kernel
theorem dX1_known_1 : decode cX1_known 1 = .ok (.ifCond .lt 15, 3) := by decide +kernel
theorem dX1_known_4 : decode cX1_known 4 = .ok (.iload_n 1, 1) := by decide +kernel
theorem dX1_known_5 : decode cX1_known 5 = .ok (.aload_n 0, 1) := by decide +kernel
theorem dX1_known_6 : decode cX1_known 6 = .ok (.getfield 30, 3) := by decide +kernel
theorem dX1_known_9 : decode cX1_known 9 = .ok (.if_icmp .ge 7, 3) := by decide +kernel
theorem dX1_known_12 : decode cX1_known 12 = .ok (.iconst 1, 1) := by decide +kernel
theorem dX1_known_13 : decode cX1_known 13 = .ok (.goto 4, 3) := by decide +kernel
theorem dX1_known_16 : decode cX1_known 16 = .ok (.iconst 0, 1) := by decide +kernel
theorem dX1_known_17 : decode cX1_known 17 = .ok (.ireturn, 1) := by decide +kernel
theorem dX1_renew_0 : decode cX1_renew 0 = .ok (.bipush 31, 2) := by decide +kernel
theorem dX1_renew_2 : decode cX1_renew 2 = .ok (.istore 4, 2) := by decide +kernel
theorem dX1_renew_4 : decode cX1_renew 4 = .ok (.iload 4, 2) := by decide +kernel
theorem dX1_renew_6 : decode cX1_renew 6 = .ok (.iconst 1, 1) := by decide +kernel
theorem dX1_renew_7 : decode cX1_renew 7 = .ok (.if_icmp .lt 53, 3) := by decide +kernel
theorem dX1_renew_10 : decode cX1_renew 10 = .ok (.aload_n 1, 1) := by decide +kernel
theorem dX1_renew_11 : decode cX1_renew 11 = .ok (.iload 4, 2) := by decide +kernel
theorem dX1_renew_13 : decode cX1_renew 13 = .ok (.invokevirtual 40, 3) := by decide +kernel
theorem dX1_renew_16 : decode cX1_renew 16 = .ok (.ifCond .ne 15, 3) := by decide +kernel
theorem dX1_renew_19 : decode cX1_renew 19 = .ok (.aload_n 0, 1) := by decide +kernel
theorem dX1_renew_20 : decode cX1_renew 20 = .ok (.getfield 21, 3) := by decide +kernel
theorem dX1_renew_23 : decode cX1_renew 23 = .ok (.iload 4, 2) := by decide +kernel
theorem dX1_renew_25 : decode cX1_renew 25 = .ok (.bipush (-4), 2) := by decide +kernel
theorem dX1_renew_27 : decode cX1_renew 27 = .ok (.iastore, 1) := by decide +kernel
theorem dX1_renew_28 : decode cX1_renew 28 = .ok (.goto 26, 3) := by decide +kernel
theorem dX1_renew_31 : decode cX1_renew 31 = .ok (.iload_n 2, 1) := by decide +kernel
theorem dX1_renew_32 : decode cX1_renew 32 = .ok (.iload 4, 2) := by decide +kernel
theorem dX1_renew_34 : decode cX1_renew 34 = .ok (.invokestatic 46, 3) := by decide +kernel
theorem dX1_renew_37 : decode cX1_renew 37 = .ok (.ifCond .eq 17, 3) := by decide +kernel
theorem dX1_renew_40 : decode cX1_renew 40 = .ok (.aload_n 0, 1) := by decide +kernel
theorem dX1_renew_41 : decode cX1_renew 41 = .ok (.getfield 21, 3) := by decide +kernel
theorem dX1_renew_44 : decode cX1_renew 44 = .ok (.iload 4, 2) := by decide +kernel
theorem dX1_renew_46 : decode cX1_renew 46 = .ok (.aload_n 0, 1) := by decide +kernel
theorem dX1_renew_47 : decode cX1_renew 47 = .ok (.iload 4, 2) := by decide +kernel
theorem dX1_renew_49 : decode cX1_renew 49 = .ok (.iload_n 3, 1) := by decide +kernel
theorem dX1_renew_50 : decode cX1_renew 50 = .ok (.invokevirtual 50, 3) := by decide +kernel
theorem dX1_renew_53 : decode cX1_renew 53 = .ok (.iastore, 1) := by decide +kernel
theorem dX1_renew_54 : decode cX1_renew 54 = .ok (.iinc 4 (-1), 3) := by decide +kernel
theorem dX1_renew_57 : decode cX1_renew 57 = .ok (.goto (-53), 3) := by decide +kernel
theorem dX1_renew_60 : decode cX1_renew 60 = .ok (.return_, 1) := by decide +kernel
theorem dX1_add_0 : decode cX1_add 0 = .ok (.aload_n 0, 1) := by decide +kernel
theorem dX1_add_1 : decode cX1_add 1 = .ok (.getfield 30, 3) := by decide +kernel
theorem dX1_add_4 : decode cX1_add 4 = .ok (.sipush 232, 3) := by decide +kernel
theorem dX1_add_7 : decode cX1_add 7 = .ok (.if_icmp .lt 6, 3) := by decide +kernel
theorem dX1_add_10 : decode cX1_add 10 = .ok (.bipush (-4), 2) := by decide +kernel
theorem dX1_add_12 : decode cX1_add 12 = .ok (.ireturn, 1) := by decide +kernel
theorem dX1_add_13 : decode cX1_add 13 = .ok (.aload_n 0, 1) := by decide +kernel
theorem dX1_add_14 : decode cX1_add 14 = .ok (.getfield 9, 3) := by decide +kernel
theorem dX1_add_17 : decode cX1_add 17 = .ok (.aload_n 0, 1) := by decide +kernel
theorem dX1_add_18 : decode cX1_add 18 = .ok (.getfield 30, 3) := by decide +kernel
theorem dX1_add_21 : decode cX1_add 21 = .ok (.iload_n 1, 1) := by decide +kernel
theorem dX1_add_22 : decode cX1_add 22 = .ok (.iastore, 1) := by decide +kernel
theorem dX1_add_23 : decode cX1_add 23 = .ok (.aload_n 0, 1) := by decide +kernel
theorem dX1_add_24 : decode cX1_add 24 = .ok (.getfield 15, 3) := by decide +kernel
theorem dX1_add_27 : decode cX1_add 27 = .ok (.aload_n 0, 1) := by decide +kernel
theorem dX1_add_28 : decode cX1_add 28 = .ok (.getfield 30, 3) := by decide +kernel
theorem dX1_add_31 : decode cX1_add 31 = .ok (.iload_n 2, 1) := by decide +kernel
theorem dX1_add_32 : decode cX1_add 32 = .ok (.iastore, 1) := by decide +kernel
theorem dX1_add_33 : decode cX1_add 33 = .ok (.aload_n 0, 1) := by decide +kernel
theorem dX1_add_34 : decode cX1_add 34 = .ok (.getfield 18, 3) := by decide +kernel
theorem dX1_add_37 : decode cX1_add 37 = .ok (.aload_n 0, 1) := by decide +kernel
theorem dX1_add_38 : decode cX1_add 38 = .ok (.getfield 30, 3) := by decide +kernel
theorem dX1_add_41 : decode cX1_add 41 = .ok (.iconst 0, 1) := by decide +kernel
theorem dX1_add_42 : decode cX1_add 42 = .ok (.iastore, 1) := by decide +kernel
theorem dX1_add_43 : decode cX1_add 43 = .ok (.aload_n 0, 1) := by decide +kernel
theorem dX1_add_44 : decode cX1_add 44 = .ok (.dup, 1) := by decide +kernel
theorem dX1_add_45 : decode cX1_add 45 = .ok (.getfield 30, 3) := by decide +kernel
theorem dX1_add_48 : decode cX1_add 48 = .ok (.iconst 1, 1) := by decide +kernel
theorem dX1_add_49 : decode cX1_add 49 = .ok (.iadd, 1) := by decide +kernel
theorem dX1_add_50 : decode cX1_add 50 = .ok (.putfield 30, 3) := by decide +kernel
theorem dX1_add_53 : decode cX1_add 53 = .ok (.aload_n 0, 1) := by decide +kernel
theorem dX1_add_54 : decode cX1_add 54 = .ok (.getfield 30, 3) := by decide +kernel
theorem dX1_add_57 : decode cX1_add 57 = .ok (.iconst 1, 1) := by decide +kernel
theorem dX1_add_58 : decode cX1_add 58 = .ok (.isub, 1) := by decide +kernel
theorem dX1_add_59 : decode cX1_add 59 = .ok (.ireturn, 1) := by decide +kernel
theorem dX1_give_0 : decode cX1_give 0 = .ok (.aload_n 0, 1) := by decide +kernel
theorem dX1_give_1 : decode cX1_give 1 = .ok (.iload_n 1, 1) := by decide +kernel
theorem dX1_give_2 : decode cX1_give 2 = .ok (.invokevirtual 54, 3) := by decide +kernel
theorem dX1_give_5 : decode cX1_give 5 = .ok (.ifCond .eq 15, 3) := by decide +kernel
theorem dX1_give_8 : decode cX1_give 8 = .ok (.aload_n 0, 1) := by decide +kernel
theorem dX1_give_9 : decode cX1_give 9 = .ok (.getfield 18, 3) := by decide +kernel
theorem dX1_give_12 : decode cX1_give 12 = .ok (.iload_n 1, 1) := by decide +kernel
theorem dX1_give_13 : decode cX1_give 13 = .ok (.dup2, 1) := by decide +kernel
theorem dX1_give_14 : decode cX1_give 14 = .ok (.iaload, 1) := by decide +kernel
theorem dX1_give_15 : decode cX1_give 15 = .ok (.iconst 1, 1) := by decide +kernel
theorem dX1_give_16 : decode cX1_give 16 = .ok (.iload_n 2, 1) := by decide +kernel
theorem dX1_give_17 : decode cX1_give 17 = .ok (.ishl, 1) := by decide +kernel
theorem dX1_give_18 : decode cX1_give 18 = .ok (.ior, 1) := by decide +kernel
theorem dX1_give_19 : decode cX1_give 19 = .ok (.iastore, 1) := by decide +kernel
theorem dX1_give_20 : decode cX1_give 20 = .ok (.return_, 1) := by decide +kernel
theorem dX1_nodeOf_0 : decode cX1_nodeOf 0 = .ok (.aload_n 0, 1) := by decide +kernel
theorem dX1_nodeOf_1 : decode cX1_nodeOf 1 = .ok (.iload_n 1, 1) := by decide +kernel
theorem dX1_nodeOf_2 : decode cX1_nodeOf 2 = .ok (.invokevirtual 54, 3) := by decide +kernel
theorem dX1_nodeOf_5 : decode cX1_nodeOf 5 = .ok (.ifCond .eq 12, 3) := by decide +kernel
theorem dX1_nodeOf_8 : decode cX1_nodeOf 8 = .ok (.aload_n 0, 1) := by decide +kernel
theorem dX1_nodeOf_9 : decode cX1_nodeOf 9 = .ok (.getfield 9, 3) := by decide +kernel
theorem dX1_nodeOf_12 : decode cX1_nodeOf 12 = .ok (.iload_n 1, 1) := by decide +kernel
theorem dX1_nodeOf_13 : decode cX1_nodeOf 13 = .ok (.iaload, 1) := by decide +kernel
theorem dX1_nodeOf_14 : decode cX1_nodeOf 14 = .ok (.goto 5, 3) := by decide +kernel
theorem dX1_nodeOf_17 : decode cX1_nodeOf 17 = .ok (.bipush (-4), 2) := by decide +kernel
theorem dX1_nodeOf_19 : decode cX1_nodeOf 19 = .ok (.ireturn, 1) := by decide +kernel
theorem dX1_batchOf_0 : decode cX1_batchOf 0 = .ok (.aload_n 0, 1) := by decide +kernel
theorem dX1_batchOf_1 : decode cX1_batchOf 1 = .ok (.iload_n 1, 1) := by decide +kernel
theorem dX1_batchOf_2 : decode cX1_batchOf 2 = .ok (.invokevirtual 54, 3) := by decide +kernel
theorem dX1_batchOf_5 : decode cX1_batchOf 5 = .ok (.ifCond .eq 12, 3) := by decide +kernel
theorem dX1_batchOf_8 : decode cX1_batchOf 8 = .ok (.aload_n 0, 1) := by decide +kernel
theorem dX1_batchOf_9 : decode cX1_batchOf 9 = .ok (.getfield 15, 3) := by decide +kernel
theorem dX1_batchOf_12 : decode cX1_batchOf 12 = .ok (.iload_n 1, 1) := by decide +kernel
theorem dX1_batchOf_13 : decode cX1_batchOf 13 = .ok (.iaload, 1) := by decide +kernel
theorem dX1_batchOf_14 : decode cX1_batchOf 14 = .ok (.goto 4, 3) := by decide +kernel
theorem dX1_batchOf_17 : decode cX1_batchOf 17 = .ok (.iconst (-1), 1) := by decide +kernel
theorem dX1_batchOf_18 : decode cX1_batchOf 18 = .ok (.ireturn, 1) := by decide +kernel
theorem dX1_holdersOf_0 : decode cX1_holdersOf 0 = .ok (.aload_n 0, 1) := by decide +kernel
theorem dX1_holdersOf_1 : decode cX1_holdersOf 1 = .ok (.iload_n 1, 1) := by decide +kernel
theorem dX1_holdersOf_2 : decode cX1_holdersOf 2 = .ok (.invokevirtual 54, 3) := by decide +kernel
theorem dX1_holdersOf_5 : decode cX1_holdersOf 5 = .ok (.ifCond .eq 12, 3) := by decide +kernel
theorem dX1_holdersOf_8 : decode cX1_holdersOf 8 = .ok (.aload_n 0, 1) := by decide +kernel
theorem dX1_holdersOf_9 : decode cX1_holdersOf 9 = .ok (.getfield 18, 3) := by decide +kernel
theorem dX1_holdersOf_12 : decode cX1_holdersOf 12 = .ok (.iload_n 1, 1) := by decide +kernel
theorem dX1_holdersOf_13 : decode cX1_holdersOf 13 = .ok (.iaload, 1) := by decide +kernel
theorem dX1_holdersOf_14 : decode cX1_holdersOf 14 = .ok (.goto 4, 3) := by decide +kernel
theorem dX1_holdersOf_17 : decode cX1_holdersOf 17 = .ok (.iconst 0, 1) := by decide +kernel
theorem dX1_holdersOf_18 : decode cX1_holdersOf 18 = .ok (.ireturn, 1) := by decide +kernel
theorem dX1_held_0 : decode cX1_held 0 = .ok (.aload_n 0, 1) := by decide +kernel
theorem dX1_held_1 : decode cX1_held 1 = .ok (.iload_n 1, 1) := by decide +kernel
theorem dX1_held_2 : decode cX1_held 2 = .ok (.invokevirtual 57, 3) := by decide +kernel
theorem dX1_held_5 : decode cX1_held 5 = .ok (.iload_n 2, 1) := by decide +kernel
theorem dX1_held_6 : decode cX1_held 6 = .ok (.invokestatic 46, 3) := by decide +kernel
theorem dX1_held_9 : decode cX1_held 9 = .ok (.ireturn, 1) := by decide +kernel
theorem dX1_heldBy_0 : decode cX1_heldBy 0 = .ok (.iconst 0, 1) := by decide +kernel
theorem dX1_heldBy_1 : decode cX1_heldBy 1 = .ok (.istore_n 2, 1) := by decide +kernel
theorem dX1_heldBy_2 : decode cX1_heldBy 2 = .ok (.iconst 0, 1) := by decide +kernel
theorem dX1_heldBy_3 : decode cX1_heldBy 3 = .ok (.istore_n 3, 1) := by decide +kernel
theorem dX1_heldBy_4 : decode cX1_heldBy 4 = .ok (.iload_n 3, 1) := by decide +kernel
theorem dX1_heldBy_5 : decode cX1_heldBy 5 = .ok (.aload_n 0, 1) := by decide +kernel
theorem dX1_heldBy_6 : decode cX1_heldBy 6 = .ok (.getfield 30, 3) := by decide +kernel
theorem dX1_heldBy_9 : decode cX1_heldBy 9 = .ok (.if_icmp .ge 22, 3) := by decide +kernel
theorem dX1_heldBy_12 : decode cX1_heldBy 12 = .ok (.iload_n 2, 1) := by decide +kernel
theorem dX1_heldBy_13 : decode cX1_heldBy 13 = .ok (.aload_n 0, 1) := by decide +kernel
theorem dX1_heldBy_14 : decode cX1_heldBy 14 = .ok (.getfield 18, 3) := by decide +kernel
theorem dX1_heldBy_17 : decode cX1_heldBy 17 = .ok (.iload_n 3, 1) := by decide +kernel
theorem dX1_heldBy_18 : decode cX1_heldBy 18 = .ok (.iaload, 1) := by decide +kernel
theorem dX1_heldBy_19 : decode cX1_heldBy 19 = .ok (.iload_n 1, 1) := by decide +kernel
theorem dX1_heldBy_20 : decode cX1_heldBy 20 = .ok (.invokestatic 61, 3) := by decide +kernel
theorem dX1_heldBy_23 : decode cX1_heldBy 23 = .ok (.iadd, 1) := by decide +kernel
theorem dX1_heldBy_24 : decode cX1_heldBy 24 = .ok (.istore_n 2, 1) := by decide +kernel
theorem dX1_heldBy_25 : decode cX1_heldBy 25 = .ok (.iinc 3 1, 3) := by decide +kernel
theorem dX1_heldBy_28 : decode cX1_heldBy 28 = .ok (.goto (-24), 3) := by decide +kernel
theorem dX1_heldBy_31 : decode cX1_heldBy 31 = .ok (.iload_n 2, 1) := by decide +kernel
theorem dX1_heldBy_32 : decode cX1_heldBy 32 = .ok (.ireturn, 1) := by decide +kernel
theorem dX2_init_0 : decode cX2_init 0 = .ok (.aload_n 0, 1) := by decide +kernel
theorem dX2_init_1 : decode cX2_init 1 = .ok (.invokespecial 3, 3) := by decide +kernel
theorem dX2_init_4 : decode cX2_init 4 = .ok (.aload_n 0, 1) := by decide +kernel
theorem dX2_init_5 : decode cX2_init 5 = .ok (.sipush 192, 3) := by decide +kernel
theorem dX2_init_8 : decode cX2_init 8 = .ok (.newarray .int, 2) := by decide +kernel
theorem dX2_init_10 : decode cX2_init 10 = .ok (.putfield 9, 3) := by decide +kernel
theorem dX2_init_13 : decode cX2_init 13 = .ok (.aload_n 0, 1) := by decide +kernel
theorem dX2_init_14 : decode cX2_init 14 = .ok (.sipush 192, 3) := by decide +kernel
theorem dX2_init_17 : decode cX2_init 17 = .ok (.newarray .int, 2) := by decide +kernel
theorem dX2_init_19 : decode cX2_init 19 = .ok (.putfield 15, 3) := by decide +kernel
theorem dX2_init_22 : decode cX2_init 22 = .ok (.aload_n 0, 1) := by decide +kernel
theorem dX2_init_23 : decode cX2_init 23 = .ok (.sipush 192, 3) := by decide +kernel
theorem dX2_init_26 : decode cX2_init 26 = .ok (.newarray .int, 2) := by decide +kernel
theorem dX2_init_28 : decode cX2_init 28 = .ok (.putfield 18, 3) := by decide +kernel
theorem dX2_init_31 : decode cX2_init 31 = .ok (.return_, 1) := by decide +kernel
theorem dX2_take_0 : decode cX2_take 0 = .ok (.aload_n 0, 1) := by decide +kernel
theorem dX2_take_1 : decode cX2_take 1 = .ok (.aload_n 1, 1) := by decide +kernel
theorem dX2_take_2 : decode cX2_take 2 = .ok (.getfield 21, 3) := by decide +kernel
theorem dX2_take_5 : decode cX2_take 5 = .ok (.putfield 21, 3) := by decide +kernel
theorem dX2_take_8 : decode cX2_take 8 = .ok (.aload_n 1, 1) := by decide +kernel
theorem dX2_take_9 : decode cX2_take 9 = .ok (.getfield 9, 3) := by decide +kernel
theorem dX2_take_12 : decode cX2_take 12 = .ok (.iconst 0, 1) := by decide +kernel
theorem dX2_take_13 : decode cX2_take 13 = .ok (.aload_n 0, 1) := by decide +kernel
theorem dX2_take_14 : decode cX2_take 14 = .ok (.getfield 9, 3) := by decide +kernel
theorem dX2_take_17 : decode cX2_take 17 = .ok (.iconst 0, 1) := by decide +kernel
theorem dX2_take_18 : decode cX2_take 18 = .ok (.sipush 192, 3) := by decide +kernel
theorem dX2_take_21 : decode cX2_take 21 = .ok (.invokestatic 25, 3) := by decide +kernel
theorem dX2_take_24 : decode cX2_take 24 = .ok (.aload_n 1, 1) := by decide +kernel
theorem dX2_take_25 : decode cX2_take 25 = .ok (.getfield 15, 3) := by decide +kernel
theorem dX2_take_28 : decode cX2_take 28 = .ok (.iconst 0, 1) := by decide +kernel
theorem dX2_take_29 : decode cX2_take 29 = .ok (.aload_n 0, 1) := by decide +kernel
theorem dX2_take_30 : decode cX2_take 30 = .ok (.getfield 15, 3) := by decide +kernel
theorem dX2_take_33 : decode cX2_take 33 = .ok (.iconst 0, 1) := by decide +kernel
theorem dX2_take_34 : decode cX2_take 34 = .ok (.sipush 192, 3) := by decide +kernel
theorem dX2_take_37 : decode cX2_take 37 = .ok (.invokestatic 25, 3) := by decide +kernel
theorem dX2_take_40 : decode cX2_take 40 = .ok (.aload_n 1, 1) := by decide +kernel
theorem dX2_take_41 : decode cX2_take 41 = .ok (.getfield 18, 3) := by decide +kernel
theorem dX2_take_44 : decode cX2_take 44 = .ok (.iconst 0, 1) := by decide +kernel
theorem dX2_take_45 : decode cX2_take 45 = .ok (.aload_n 0, 1) := by decide +kernel
theorem dX2_take_46 : decode cX2_take 46 = .ok (.getfield 18, 3) := by decide +kernel
theorem dX2_take_49 : decode cX2_take 49 = .ok (.iconst 0, 1) := by decide +kernel
theorem dX2_take_50 : decode cX2_take 50 = .ok (.sipush 192, 3) := by decide +kernel
theorem dX2_take_53 : decode cX2_take 53 = .ok (.invokestatic 25, 3) := by decide +kernel
theorem dX2_take_56 : decode cX2_take 56 = .ok (.return_, 1) := by decide +kernel
theorem dX2_known_0 : decode cX2_known 0 = .ok (.iload_n 1, 1) := by decide +kernel
theorem dX2_known_1 : decode cX2_known 1 = .ok (.ifCond .lt 15, 3) := by decide +kernel
theorem dX2_known_4 : decode cX2_known 4 = .ok (.iload_n 1, 1) := by decide +kernel
theorem dX2_known_5 : decode cX2_known 5 = .ok (.aload_n 0, 1) := by decide +kernel
theorem dX2_known_6 : decode cX2_known 6 = .ok (.getfield 21, 3) := by decide +kernel
theorem dX2_known_9 : decode cX2_known 9 = .ok (.if_icmp .ge 7, 3) := by decide +kernel
theorem dX2_known_12 : decode cX2_known 12 = .ok (.iconst 1, 1) := by decide +kernel
theorem dX2_known_13 : decode cX2_known 13 = .ok (.goto 4, 3) := by decide +kernel
theorem dX2_known_16 : decode cX2_known 16 = .ok (.iconst 0, 1) := by decide +kernel
theorem dX2_known_17 : decode cX2_known 17 = .ok (.ireturn, 1) := by decide +kernel
theorem dX2_add_0 : decode cX2_add 0 = .ok (.aload_n 0, 1) := by decide +kernel
theorem dX2_add_1 : decode cX2_add 1 = .ok (.getfield 21, 3) := by decide +kernel
theorem dX2_add_4 : decode cX2_add 4 = .ok (.sipush 192, 3) := by decide +kernel
theorem dX2_add_7 : decode cX2_add 7 = .ok (.if_icmp .lt 4, 3) := by decide +kernel
theorem dX2_add_10 : decode cX2_add 10 = .ok (.return_, 1) := by decide +kernel
theorem dX2_add_11 : decode cX2_add 11 = .ok (.aload_n 0, 1) := by decide +kernel
theorem dX2_add_12 : decode cX2_add 12 = .ok (.getfield 9, 3) := by decide +kernel
theorem dX2_add_15 : decode cX2_add 15 = .ok (.aload_n 0, 1) := by decide +kernel
theorem dX2_add_16 : decode cX2_add 16 = .ok (.getfield 21, 3) := by decide +kernel
theorem dX2_add_19 : decode cX2_add 19 = .ok (.iload_n 1, 1) := by decide +kernel
theorem dX2_add_20 : decode cX2_add 20 = .ok (.iastore, 1) := by decide +kernel
theorem dX2_add_21 : decode cX2_add 21 = .ok (.aload_n 0, 1) := by decide +kernel
theorem dX2_add_22 : decode cX2_add 22 = .ok (.getfield 15, 3) := by decide +kernel
theorem dX2_add_25 : decode cX2_add 25 = .ok (.aload_n 0, 1) := by decide +kernel
theorem dX2_add_26 : decode cX2_add 26 = .ok (.getfield 21, 3) := by decide +kernel
theorem dX2_add_29 : decode cX2_add 29 = .ok (.iload_n 2, 1) := by decide +kernel
theorem dX2_add_30 : decode cX2_add 30 = .ok (.iastore, 1) := by decide +kernel
theorem dX2_add_31 : decode cX2_add 31 = .ok (.aload_n 0, 1) := by decide +kernel
theorem dX2_add_32 : decode cX2_add 32 = .ok (.getfield 18, 3) := by decide +kernel
theorem dX2_add_35 : decode cX2_add 35 = .ok (.aload_n 0, 1) := by decide +kernel
theorem dX2_add_36 : decode cX2_add 36 = .ok (.getfield 21, 3) := by decide +kernel
theorem dX2_add_39 : decode cX2_add 39 = .ok (.iload_n 3, 1) := by decide +kernel
theorem dX2_add_40 : decode cX2_add 40 = .ok (.iastore, 1) := by decide +kernel
theorem dX2_add_41 : decode cX2_add 41 = .ok (.aload_n 0, 1) := by decide +kernel
theorem dX2_add_42 : decode cX2_add 42 = .ok (.dup, 1) := by decide +kernel
theorem dX2_add_43 : decode cX2_add 43 = .ok (.getfield 21, 3) := by decide +kernel
theorem dX2_add_46 : decode cX2_add 46 = .ok (.iconst 1, 1) := by decide +kernel
theorem dX2_add_47 : decode cX2_add 47 = .ok (.iadd, 1) := by decide +kernel
theorem dX2_add_48 : decode cX2_add 48 = .ok (.putfield 21, 3) := by decide +kernel
theorem dX2_add_51 : decode cX2_add 51 = .ok (.return_, 1) := by decide +kernel
theorem dX3_init_0 : decode cX3_init 0 = .ok (.aload_n 0, 1) := by decide +kernel
theorem dX3_init_1 : decode cX3_init 1 = .ok (.invokespecial 3, 3) := by decide +kernel
theorem dX3_init_4 : decode cX3_init 4 = .ok (.aload_n 0, 1) := by decide +kernel
theorem dX3_init_5 : decode cX3_init 5 = .ok (.bipush 6, 2) := by decide +kernel
theorem dX3_init_7 : decode cX3_init 7 = .ok (.anewarray 9, 3) := by decide +kernel
theorem dX3_init_10 : decode cX3_init 10 = .ok (.putfield 11, 3) := by decide +kernel
theorem dX3_init_13 : decode cX3_init 13 = .ok (.iconst 0, 1) := by decide +kernel
theorem dX3_init_14 : decode cX3_init 14 = .ok (.istore_n 1, 1) := by decide +kernel
theorem dX3_init_15 : decode cX3_init 15 = .ok (.iload_n 1, 1) := by decide +kernel
theorem dX3_init_16 : decode cX3_init 16 = .ok (.bipush 6, 2) := by decide +kernel
theorem dX3_init_18 : decode cX3_init 18 = .ok (.if_icmp .ge 22, 3) := by decide +kernel
theorem dX3_init_21 : decode cX3_init 21 = .ok (.aload_n 0, 1) := by decide +kernel
theorem dX3_init_22 : decode cX3_init 22 = .ok (.getfield 11, 3) := by decide +kernel
theorem dX3_init_25 : decode cX3_init 25 = .ok (.iload_n 1, 1) := by decide +kernel
theorem dX3_init_26 : decode cX3_init 26 = .ok (.new 9, 3) := by decide +kernel
theorem dX3_init_29 : decode cX3_init 29 = .ok (.dup, 1) := by decide +kernel
theorem dX3_init_30 : decode cX3_init 30 = .ok (.invokespecial 17, 3) := by decide +kernel
theorem dX3_init_33 : decode cX3_init 33 = .ok (.aastore, 1) := by decide +kernel
theorem dX3_init_34 : decode cX3_init 34 = .ok (.iinc 1 1, 3) := by decide +kernel
theorem dX3_init_37 : decode cX3_init 37 = .ok (.goto (-22), 3) := by decide +kernel
theorem dX3_init_40 : decode cX3_init 40 = .ok (.return_, 1) := by decide +kernel
theorem dX3_take_0 : decode cX3_take 0 = .ok (.aload_n 0, 1) := by decide +kernel
theorem dX3_take_1 : decode cX3_take 1 = .ok (.aload_n 1, 1) := by decide +kernel
theorem dX3_take_2 : decode cX3_take 2 = .ok (.getfield 18, 3) := by decide +kernel
theorem dX3_take_5 : decode cX3_take 5 = .ok (.putfield 18, 3) := by decide +kernel
theorem dX3_take_8 : decode cX3_take 8 = .ok (.aload_n 0, 1) := by decide +kernel
theorem dX3_take_9 : decode cX3_take 9 = .ok (.aload_n 1, 1) := by decide +kernel
theorem dX3_take_10 : decode cX3_take 10 = .ok (.getfield 22, 3) := by decide +kernel
theorem dX3_take_13 : decode cX3_take 13 = .ok (.putfield 22, 3) := by decide +kernel
theorem dX3_take_16 : decode cX3_take 16 = .ok (.iconst 0, 1) := by decide +kernel
theorem dX3_take_17 : decode cX3_take 17 = .ok (.istore_n 2, 1) := by decide +kernel
theorem dX3_take_18 : decode cX3_take 18 = .ok (.iload_n 2, 1) := by decide +kernel
theorem dX3_take_19 : decode cX3_take 19 = .ok (.bipush 6, 2) := by decide +kernel
theorem dX3_take_21 : decode cX3_take 21 = .ok (.if_icmp .ge 24, 3) := by decide +kernel
theorem dX3_take_24 : decode cX3_take 24 = .ok (.aload_n 0, 1) := by decide +kernel
theorem dX3_take_25 : decode cX3_take 25 = .ok (.getfield 11, 3) := by decide +kernel
theorem dX3_take_28 : decode cX3_take 28 = .ok (.iload_n 2, 1) := by decide +kernel
theorem dX3_take_29 : decode cX3_take 29 = .ok (.aaload, 1) := by decide +kernel
theorem dX3_take_30 : decode cX3_take 30 = .ok (.aload_n 1, 1) := by decide +kernel
theorem dX3_take_31 : decode cX3_take 31 = .ok (.getfield 11, 3) := by decide +kernel
theorem dX3_take_34 : decode cX3_take 34 = .ok (.iload_n 2, 1) := by decide +kernel
theorem dX3_take_35 : decode cX3_take 35 = .ok (.aaload, 1) := by decide +kernel
theorem dX3_take_36 : decode cX3_take 36 = .ok (.invokevirtual 25, 3) := by decide +kernel
theorem dX3_take_39 : decode cX3_take 39 = .ok (.iinc 2 1, 3) := by decide +kernel
theorem dX3_take_42 : decode cX3_take 42 = .ok (.goto (-24), 3) := by decide +kernel
theorem dX3_take_45 : decode cX3_take 45 = .ok (.return_, 1) := by decide +kernel
theorem dX3_keep_0 : decode cX3_keep 0 = .ok (.aload_n 0, 1) := by decide +kernel
theorem dX3_keep_1 : decode cX3_keep 1 = .ok (.getfield 11, 3) := by decide +kernel
theorem dX3_keep_4 : decode cX3_keep 4 = .ok (.aload_n 0, 1) := by decide +kernel
theorem dX3_keep_5 : decode cX3_keep 5 = .ok (.getfield 22, 3) := by decide +kernel
theorem dX3_keep_8 : decode cX3_keep 8 = .ok (.aaload, 1) := by decide +kernel
theorem dX3_keep_9 : decode cX3_keep 9 = .ok (.aload_n 1, 1) := by decide +kernel
theorem dX3_keep_10 : decode cX3_keep 10 = .ok (.invokevirtual 25, 3) := by decide +kernel
theorem dX3_keep_13 : decode cX3_keep 13 = .ok (.aload_n 0, 1) := by decide +kernel
theorem dX3_keep_14 : decode cX3_keep 14 = .ok (.aload_n 0, 1) := by decide +kernel
theorem dX3_keep_15 : decode cX3_keep 15 = .ok (.getfield 22, 3) := by decide +kernel
theorem dX3_keep_18 : decode cX3_keep 18 = .ok (.iconst 1, 1) := by decide +kernel
theorem dX3_keep_19 : decode cX3_keep 19 = .ok (.iadd, 1) := by decide +kernel
theorem dX3_keep_20 : decode cX3_keep 20 = .ok (.bipush 6, 2) := by decide +kernel
theorem dX3_keep_22 : decode cX3_keep 22 = .ok (.irem, 1) := by decide +kernel
theorem dX3_keep_23 : decode cX3_keep 23 = .ok (.putfield 22, 3) := by decide +kernel
theorem dX3_keep_26 : decode cX3_keep 26 = .ok (.aload_n 0, 1) := by decide +kernel
theorem dX3_keep_27 : decode cX3_keep 27 = .ok (.aload_n 0, 1) := by decide +kernel
theorem dX3_keep_28 : decode cX3_keep 28 = .ok (.getfield 18, 3) := by decide +kernel
theorem dX3_keep_31 : decode cX3_keep 31 = .ok (.iconst 1, 1) := by decide +kernel
theorem dX3_keep_32 : decode cX3_keep 32 = .ok (.iadd, 1) := by decide +kernel
theorem dX3_keep_33 : decode cX3_keep 33 = .ok (.bipush 6, 2) := by decide +kernel
theorem dX3_keep_35 : decode cX3_keep 35 = .ok (.invokestatic 29, 3) := by decide +kernel
theorem dX3_keep_38 : decode cX3_keep 38 = .ok (.putfield 18, 3) := by decide +kernel
theorem dX3_keep_41 : decode cX3_keep 41 = .ok (.return_, 1) := by decide +kernel
theorem dX3_goBack_0 : decode cX3_goBack 0 = .ok (.aload_n 0, 1) := by decide +kernel
theorem dX3_goBack_1 : decode cX3_goBack 1 = .ok (.aload_n 0, 1) := by decide +kernel
theorem dX3_goBack_2 : decode cX3_goBack 2 = .ok (.getfield 22, 3) := by decide +kernel
theorem dX3_goBack_5 : decode cX3_goBack 5 = .ok (.bipush 6, 2) := by decide +kernel
theorem dX3_goBack_7 : decode cX3_goBack 7 = .ok (.iadd, 1) := by decide +kernel
theorem dX3_goBack_8 : decode cX3_goBack 8 = .ok (.iconst 1, 1) := by decide +kernel
theorem dX3_goBack_9 : decode cX3_goBack 9 = .ok (.isub, 1) := by decide +kernel
theorem dX3_goBack_10 : decode cX3_goBack 10 = .ok (.bipush 6, 2) := by decide +kernel
theorem dX3_goBack_12 : decode cX3_goBack 12 = .ok (.irem, 1) := by decide +kernel
theorem dX3_goBack_13 : decode cX3_goBack 13 = .ok (.putfield 22, 3) := by decide +kernel
theorem dX3_goBack_16 : decode cX3_goBack 16 = .ok (.aload_n 0, 1) := by decide +kernel
theorem dX3_goBack_17 : decode cX3_goBack 17 = .ok (.dup, 1) := by decide +kernel
theorem dX3_goBack_18 : decode cX3_goBack 18 = .ok (.getfield 18, 3) := by decide +kernel
theorem dX3_goBack_21 : decode cX3_goBack 21 = .ok (.iconst 1, 1) := by decide +kernel
theorem dX3_goBack_22 : decode cX3_goBack 22 = .ok (.isub, 1) := by decide +kernel
theorem dX3_goBack_23 : decode cX3_goBack 23 = .ok (.putfield 18, 3) := by decide +kernel
theorem dX3_goBack_26 : decode cX3_goBack 26 = .ok (.aload_n 1, 1) := by decide +kernel
theorem dX3_goBack_27 : decode cX3_goBack 27 = .ok (.aload_n 0, 1) := by decide +kernel
theorem dX3_goBack_28 : decode cX3_goBack 28 = .ok (.getfield 11, 3) := by decide +kernel
theorem dX3_goBack_31 : decode cX3_goBack 31 = .ok (.aload_n 0, 1) := by decide +kernel
theorem dX3_goBack_32 : decode cX3_goBack 32 = .ok (.getfield 22, 3) := by decide +kernel
theorem dX3_goBack_35 : decode cX3_goBack 35 = .ok (.aaload, 1) := by decide +kernel
theorem dX3_goBack_36 : decode cX3_goBack 36 = .ok (.invokevirtual 25, 3) := by decide +kernel
theorem dX3_goBack_39 : decode cX3_goBack 39 = .ok (.return_, 1) := by decide +kernel
theorem dX4_init_0 : decode cX4_init 0 = .ok (.aload_n 0, 1) := by decide +kernel
theorem dX4_init_1 : decode cX4_init 1 = .ok (.invokespecial 3, 3) := by decide +kernel
theorem dX4_init_4 : decode cX4_init 4 = .ok (.aload_n 0, 1) := by decide +kernel
theorem dX4_init_5 : decode cX4_init 5 = .ok (.sipush 232, 3) := by decide +kernel
theorem dX4_init_8 : decode cX4_init 8 = .ok (.newarray .boolean, 2) := by decide +kernel
theorem dX4_init_10 : decode cX4_init 10 = .ok (.putfield 9, 3) := by decide +kernel
theorem dX4_init_13 : decode cX4_init 13 = .ok (.return_, 1) := by decide +kernel
theorem dX4_take_0 : decode cX4_take 0 = .ok (.aload_n 0, 1) := by decide +kernel
theorem dX4_take_1 : decode cX4_take 1 = .ok (.aload_n 1, 1) := by decide +kernel
theorem dX4_take_2 : decode cX4_take 2 = .ok (.getfield 15, 3) := by decide +kernel
theorem dX4_take_5 : decode cX4_take 5 = .ok (.putfield 21, 3) := by decide +kernel
theorem dX4_take_8 : decode cX4_take 8 = .ok (.iconst 0, 1) := by decide +kernel
theorem dX4_take_9 : decode cX4_take 9 = .ok (.istore_n 3, 1) := by decide +kernel
theorem dX4_take_10 : decode cX4_take 10 = .ok (.iload_n 3, 1) := by decide +kernel
theorem dX4_take_11 : decode cX4_take 11 = .ok (.aload_n 0, 1) := by decide +kernel
theorem dX4_take_12 : decode cX4_take 12 = .ok (.getfield 21, 3) := by decide +kernel
theorem dX4_take_15 : decode cX4_take 15 = .ok (.if_icmp .ge 31, 3) := by decide +kernel
theorem dX4_take_18 : decode cX4_take 18 = .ok (.aload_n 0, 1) := by decide +kernel
theorem dX4_take_19 : decode cX4_take 19 = .ok (.getfield 9, 3) := by decide +kernel
theorem dX4_take_22 : decode cX4_take 22 = .ok (.iload_n 3, 1) := by decide +kernel
theorem dX4_take_23 : decode cX4_take 23 = .ok (.aload_n 1, 1) := by decide +kernel
theorem dX4_take_24 : decode cX4_take 24 = .ok (.getfield 24, 3) := by decide +kernel
theorem dX4_take_27 : decode cX4_take 27 = .ok (.iload_n 3, 1) := by decide +kernel
theorem dX4_take_28 : decode cX4_take 28 = .ok (.iaload, 1) := by decide +kernel
theorem dX4_take_29 : decode cX4_take 29 = .ok (.iload_n 2, 1) := by decide +kernel
theorem dX4_take_30 : decode cX4_take 30 = .ok (.iand, 1) := by decide +kernel
theorem dX4_take_31 : decode cX4_take 31 = .ok (.ifCond .eq 7, 3) := by decide +kernel
theorem dX4_take_34 : decode cX4_take 34 = .ok (.iconst 1, 1) := by decide +kernel
theorem dX4_take_35 : decode cX4_take 35 = .ok (.goto 4, 3) := by decide +kernel
theorem dX4_take_38 : decode cX4_take 38 = .ok (.iconst 0, 1) := by decide +kernel
theorem dX4_take_39 : decode cX4_take 39 = .ok (.bastore, 1) := by decide +kernel
theorem dX4_take_40 : decode cX4_take 40 = .ok (.iinc 3 1, 3) := by decide +kernel
theorem dX4_take_43 : decode cX4_take 43 = .ok (.goto (-33), 3) := by decide +kernel
theorem dX4_take_46 : decode cX4_take 46 = .ok (.return_, 1) := by decide +kernel
theorem dX4_has_0 : decode cX4_has 0 = .ok (.iload_n 1, 1) := by decide +kernel
theorem dX4_has_1 : decode cX4_has 1 = .ok (.ifCond .lt 24, 3) := by decide +kernel
theorem dX4_has_4 : decode cX4_has 4 = .ok (.iload_n 1, 1) := by decide +kernel
theorem dX4_has_5 : decode cX4_has 5 = .ok (.aload_n 0, 1) := by decide +kernel
theorem dX4_has_6 : decode cX4_has 6 = .ok (.getfield 21, 3) := by decide +kernel
theorem dX4_has_9 : decode cX4_has 9 = .ok (.if_icmp .ge 16, 3) := by decide +kernel
theorem dX4_has_12 : decode cX4_has 12 = .ok (.aload_n 0, 1) := by decide +kernel
theorem dX4_has_13 : decode cX4_has 13 = .ok (.getfield 9, 3) := by decide +kernel
theorem dX4_has_16 : decode cX4_has 16 = .ok (.iload_n 1, 1) := by decide +kernel
theorem dX4_has_17 : decode cX4_has 17 = .ok (.baload, 1) := by decide +kernel
theorem dX4_has_18 : decode cX4_has 18 = .ok (.ifCond .eq 7, 3) := by decide +kernel
theorem dX4_has_21 : decode cX4_has 21 = .ok (.iconst 1, 1) := by decide +kernel
theorem dX4_has_22 : decode cX4_has 22 = .ok (.goto 4, 3) := by decide +kernel
theorem dX4_has_25 : decode cX4_has 25 = .ok (.iconst 0, 1) := by decide +kernel
theorem dX4_has_26 : decode cX4_has 26 = .ok (.ireturn, 1) := by decide +kernel
theorem dX4_lacks_0 : decode cX4_lacks 0 = .ok (.iload_n 1, 1) := by decide +kernel
theorem dX4_lacks_1 : decode cX4_lacks 1 = .ok (.ifCond .lt 24, 3) := by decide +kernel
theorem dX4_lacks_4 : decode cX4_lacks 4 = .ok (.iload_n 1, 1) := by decide +kernel
theorem dX4_lacks_5 : decode cX4_lacks 5 = .ok (.aload_n 0, 1) := by decide +kernel
theorem dX4_lacks_6 : decode cX4_lacks 6 = .ok (.getfield 21, 3) := by decide +kernel
theorem dX4_lacks_9 : decode cX4_lacks 9 = .ok (.if_icmp .ge 16, 3) := by decide +kernel
theorem dX4_lacks_12 : decode cX4_lacks 12 = .ok (.aload_n 0, 1) := by decide +kernel
theorem dX4_lacks_13 : decode cX4_lacks 13 = .ok (.getfield 9, 3) := by decide +kernel
theorem dX4_lacks_16 : decode cX4_lacks 16 = .ok (.iload_n 1, 1) := by decide +kernel
theorem dX4_lacks_17 : decode cX4_lacks 17 = .ok (.baload, 1) := by decide +kernel
theorem dX4_lacks_18 : decode cX4_lacks 18 = .ok (.ifCond .ne 7, 3) := by decide +kernel
theorem dX4_lacks_21 : decode cX4_lacks 21 = .ok (.iconst 1, 1) := by decide +kernel
theorem dX4_lacks_22 : decode cX4_lacks 22 = .ok (.goto 4, 3) := by decide +kernel
theorem dX4_lacks_25 : decode cX4_lacks 25 = .ok (.iconst 0, 1) := by decide +kernel
theorem dX4_lacks_26 : decode cX4_lacks 26 = .ok (.ireturn, 1) := by decide +kernel
theorem dX4_open_0 : decode cX4_open 0 = .ok (.aload_n 1, 1) := by decide +kernel
theorem dX4_open_1 : decode cX4_open 1 = .ok (.getfield 28, 3) := by decide +kernel
theorem dX4_open_4 : decode cX4_open 4 = .ok (.iload_n 2, 1) := by decide +kernel
theorem dX4_open_5 : decode cX4_open 5 = .ok (.iaload, 1) := by decide +kernel
theorem dX4_open_6 : decode cX4_open 6 = .ok (.istore_n 3, 1) := by decide +kernel
theorem dX4_open_7 : decode cX4_open 7 = .ok (.aload_n 0, 1) := by decide +kernel
theorem dX4_open_8 : decode cX4_open 8 = .ok (.aload_n 1, 1) := by decide +kernel
theorem dX4_open_9 : decode cX4_open 9 = .ok (.getfield 33, 3) := by decide +kernel
theorem dX4_open_12 : decode cX4_open 12 = .ok (.iload_n 2, 1) := by decide +kernel
theorem dX4_open_13 : decode cX4_open 13 = .ok (.iaload, 1) := by decide +kernel
theorem dX4_open_14 : decode cX4_open 14 = .ok (.invokevirtual 36, 3) := by decide +kernel
theorem dX4_open_17 : decode cX4_open 17 = .ok (.ifCond .eq 15, 3) := by decide +kernel
theorem dX4_open_20 : decode cX4_open 20 = .ok (.aload_n 0, 1) := by decide +kernel
theorem dX4_open_21 : decode cX4_open 21 = .ok (.iload_n 3, 1) := by decide +kernel
theorem dX4_open_22 : decode cX4_open 22 = .ok (.invokevirtual 40, 3) := by decide +kernel
theorem dX4_open_25 : decode cX4_open 25 = .ok (.ifCond .eq 7, 3) := by decide +kernel
theorem dX4_open_28 : decode cX4_open 28 = .ok (.iconst 1, 1) := by decide +kernel
theorem dX4_open_29 : decode cX4_open 29 = .ok (.goto 4, 3) := by decide +kernel
theorem dX4_open_32 : decode cX4_open 32 = .ok (.iconst 0, 1) := by decide +kernel
theorem dX4_open_33 : decode cX4_open 33 = .ok (.istore 4, 2) := by decide +kernel
theorem dX4_open_35 : decode cX4_open 35 = .ok (.iload 4, 2) := by decide +kernel
theorem dX4_open_37 : decode cX4_open 37 = .ok (.ifCond .eq 10, 3) := by decide +kernel
theorem dX4_open_40 : decode cX4_open 40 = .ok (.aload_n 0, 1) := by decide +kernel
theorem dX4_open_41 : decode cX4_open 41 = .ok (.getfield 9, 3) := by decide +kernel
theorem dX4_open_44 : decode cX4_open 44 = .ok (.iload_n 3, 1) := by decide +kernel
theorem dX4_open_45 : decode cX4_open 45 = .ok (.iconst 1, 1) := by decide +kernel
theorem dX4_open_46 : decode cX4_open 46 = .ok (.bastore, 1) := by decide +kernel
theorem dX4_open_47 : decode cX4_open 47 = .ok (.iload 4, 2) := by decide +kernel
theorem dX4_open_49 : decode cX4_open 49 = .ok (.ireturn, 1) := by decide +kernel
theorem dX4_openAll_0 : decode cX4_openAll 0 = .ok (.iconst 1, 1) := by decide +kernel
theorem dX4_openAll_1 : decode cX4_openAll 1 = .ok (.istore_n 2, 1) := by decide +kernel
theorem dX4_openAll_2 : decode cX4_openAll 2 = .ok (.iconst 0, 1) := by decide +kernel
theorem dX4_openAll_3 : decode cX4_openAll 3 = .ok (.istore_n 3, 1) := by decide +kernel
theorem dX4_openAll_4 : decode cX4_openAll 4 = .ok (.iload_n 2, 1) := by decide +kernel
theorem dX4_openAll_5 : decode cX4_openAll 5 = .ok (.ifCond .eq 46, 3) := by decide +kernel
theorem dX4_openAll_8 : decode cX4_openAll 8 = .ok (.iload_n 3, 1) := by decide +kernel
theorem dX4_openAll_9 : decode cX4_openAll 9 = .ok (.sipush 232, 3) := by decide +kernel
theorem dX4_openAll_12 : decode cX4_openAll 12 = .ok (.if_icmp .ge 39, 3) := by decide +kernel
theorem dX4_openAll_15 : decode cX4_openAll 15 = .ok (.iconst 0, 1) := by decide +kernel
theorem dX4_openAll_16 : decode cX4_openAll 16 = .ok (.istore_n 2, 1) := by decide +kernel
theorem dX4_openAll_17 : decode cX4_openAll 17 = .ok (.iconst 0, 1) := by decide +kernel
theorem dX4_openAll_18 : decode cX4_openAll 18 = .ok (.istore 4, 2) := by decide +kernel
theorem dX4_openAll_20 : decode cX4_openAll 20 = .ok (.iload 4, 2) := by decide +kernel
theorem dX4_openAll_22 : decode cX4_openAll 22 = .ok (.aload_n 1, 1) := by decide +kernel
theorem dX4_openAll_23 : decode cX4_openAll 23 = .ok (.getfield 43, 3) := by decide +kernel
theorem dX4_openAll_26 : decode cX4_openAll 26 = .ok (.if_icmp .ge 19, 3) := by decide +kernel
theorem dX4_openAll_29 : decode cX4_openAll 29 = .ok (.iload_n 2, 1) := by decide +kernel
theorem dX4_openAll_30 : decode cX4_openAll 30 = .ok (.aload_n 0, 1) := by decide +kernel
theorem dX4_openAll_31 : decode cX4_openAll 31 = .ok (.aload_n 1, 1) := by decide +kernel
theorem dX4_openAll_32 : decode cX4_openAll 32 = .ok (.iload 4, 2) := by decide +kernel
theorem dX4_openAll_34 : decode cX4_openAll 34 = .ok (.invokevirtual 46, 3) := by decide +kernel
theorem dX4_openAll_37 : decode cX4_openAll 37 = .ok (.ior, 1) := by decide +kernel
theorem dX4_openAll_38 : decode cX4_openAll 38 = .ok (.istore_n 2, 1) := by decide +kernel
theorem dX4_openAll_39 : decode cX4_openAll 39 = .ok (.iinc 4 1, 3) := by decide +kernel
theorem dX4_openAll_42 : decode cX4_openAll 42 = .ok (.goto (-22), 3) := by decide +kernel
theorem dX4_openAll_45 : decode cX4_openAll 45 = .ok (.iinc 3 1, 3) := by decide +kernel
theorem dX4_openAll_48 : decode cX4_openAll 48 = .ok (.goto (-44), 3) := by decide +kernel
theorem dX4_openAll_51 : decode cX4_openAll 51 = .ok (.return_, 1) := by decide +kernel
theorem dX5_init_0 : decode cX5_init 0 = .ok (.aload_n 0, 1) := by decide +kernel
theorem dX5_init_1 : decode cX5_init 1 = .ok (.invokespecial 3, 3) := by decide +kernel
theorem dX5_init_4 : decode cX5_init 4 = .ok (.aload_n 0, 1) := by decide +kernel
theorem dX5_init_5 : decode cX5_init 5 = .ok (.bipush 16, 2) := by decide +kernel
theorem dX5_init_7 : decode cX5_init 7 = .ok (.newarray .int, 2) := by decide +kernel
theorem dX5_init_9 : decode cX5_init 9 = .ok (.putfield 9, 3) := by decide +kernel
theorem dX5_init_12 : decode cX5_init 12 = .ok (.aload_n 0, 1) := by decide +kernel
theorem dX5_init_13 : decode cX5_init 13 = .ok (.bipush 32, 2) := by decide +kernel
theorem dX5_init_15 : decode cX5_init 15 = .ok (.newarray .int, 2) := by decide +kernel
theorem dX5_init_17 : decode cX5_init 17 = .ok (.putfield 15, 3) := by decide +kernel
theorem dX5_init_20 : decode cX5_init 20 = .ok (.return_, 1) := by decide +kernel
theorem dX5_take_0 : decode cX5_take 0 = .ok (.aload_n 1, 1) := by decide +kernel
theorem dX5_take_1 : decode cX5_take 1 = .ok (.getfield 9, 3) := by decide +kernel
theorem dX5_take_4 : decode cX5_take 4 = .ok (.iconst 0, 1) := by decide +kernel
theorem dX5_take_5 : decode cX5_take 5 = .ok (.aload_n 0, 1) := by decide +kernel
theorem dX5_take_6 : decode cX5_take 6 = .ok (.getfield 9, 3) := by decide +kernel
theorem dX5_take_9 : decode cX5_take 9 = .ok (.iconst 0, 1) := by decide +kernel
theorem dX5_take_10 : decode cX5_take 10 = .ok (.bipush 16, 2) := by decide +kernel
theorem dX5_take_12 : decode cX5_take 12 = .ok (.invokestatic 18, 3) := by decide +kernel
theorem dX5_take_15 : decode cX5_take 15 = .ok (.aload_n 1, 1) := by decide +kernel
theorem dX5_take_16 : decode cX5_take 16 = .ok (.getfield 15, 3) := by decide +kernel
theorem dX5_take_19 : decode cX5_take 19 = .ok (.iconst 0, 1) := by decide +kernel
theorem dX5_take_20 : decode cX5_take 20 = .ok (.aload_n 0, 1) := by decide +kernel
theorem dX5_take_21 : decode cX5_take 21 = .ok (.getfield 15, 3) := by decide +kernel
theorem dX5_take_24 : decode cX5_take 24 = .ok (.iconst 0, 1) := by decide +kernel
theorem dX5_take_25 : decode cX5_take 25 = .ok (.bipush 32, 2) := by decide +kernel
theorem dX5_take_27 : decode cX5_take 27 = .ok (.invokestatic 18, 3) := by decide +kernel
theorem dX5_take_30 : decode cX5_take 30 = .ok (.return_, 1) := by decide +kernel
theorem dX5_clear_0 : decode cX5_clear 0 = .ok (.aload_n 0, 1) := by decide +kernel
theorem dX5_clear_1 : decode cX5_clear 1 = .ok (.getfield 9, 3) := by decide +kernel
theorem dX5_clear_4 : decode cX5_clear 4 = .ok (.iconst 0, 1) := by decide +kernel
theorem dX5_clear_5 : decode cX5_clear 5 = .ok (.invokestatic 24, 3) := by decide +kernel
theorem dX5_clear_8 : decode cX5_clear 8 = .ok (.aload_n 0, 1) := by decide +kernel
theorem dX5_clear_9 : decode cX5_clear 9 = .ok (.getfield 15, 3) := by decide +kernel
theorem dX5_clear_12 : decode cX5_clear 12 = .ok (.iconst 0, 1) := by decide +kernel
theorem dX5_clear_13 : decode cX5_clear 13 = .ok (.invokestatic 24, 3) := by decide +kernel
theorem dX5_clear_16 : decode cX5_clear 16 = .ok (.return_, 1) := by decide +kernel
theorem dX5_all_0 : decode cX5_all 0 = .ok (.aload_n 0, 1) := by decide +kernel
theorem dX5_all_1 : decode cX5_all 1 = .ok (.getfield 15, 3) := by decide +kernel
theorem dX5_all_4 : decode cX5_all 4 = .ok (.iconst 1, 1) := by decide +kernel
theorem dX5_all_5 : decode cX5_all 5 = .ok (.iaload, 1) := by decide +kernel
theorem dX5_all_6 : decode cX5_all 6 = .ok (.ireturn, 1) := by decide +kernel
theorem dX5_sits_0 : decode cX5_sits 0 = .ok (.aload_n 0, 1) := by decide +kernel
theorem dX5_sits_1 : decode cX5_sits 1 = .ok (.getfield 9, 3) := by decide +kernel
theorem dX5_sits_4 : decode cX5_sits 4 = .ok (.iload_n 1, 1) := by decide +kernel
theorem dX5_sits_5 : decode cX5_sits 5 = .ok (.iaload, 1) := by decide +kernel
theorem dX5_sits_6 : decode cX5_sits 6 = .ok (.ifCond .eq 7, 3) := by decide +kernel
theorem dX5_sits_9 : decode cX5_sits 9 = .ok (.iconst 1, 1) := by decide +kernel
theorem dX5_sits_10 : decode cX5_sits 10 = .ok (.goto 4, 3) := by decide +kernel
theorem dX5_sits_13 : decode cX5_sits 13 = .ok (.iconst 0, 1) := by decide +kernel
theorem dX5_sits_14 : decode cX5_sits 14 = .ok (.ireturn, 1) := by decide +kernel
theorem dX5_live_0 : decode cX5_live 0 = .ok (.aload_n 0, 1) := by decide +kernel
theorem dX5_live_1 : decode cX5_live 1 = .ok (.getfield 15, 3) := by decide +kernel
theorem dX5_live_4 : decode cX5_live 4 = .ok (.iload_n 1, 1) := by decide +kernel
theorem dX5_live_5 : decode cX5_live 5 = .ok (.iaload, 1) := by decide +kernel
theorem dX5_live_6 : decode cX5_live 6 = .ok (.ifCond .eq 7, 3) := by decide +kernel
theorem dX5_live_9 : decode cX5_live 9 = .ok (.iconst 1, 1) := by decide +kernel
theorem dX5_live_10 : decode cX5_live 10 = .ok (.goto 4, 3) := by decide +kernel
theorem dX5_live_13 : decode cX5_live 13 = .ok (.iconst 0, 1) := by decide +kernel
theorem dX5_live_14 : decode cX5_live 14 = .ok (.ireturn, 1) := by decide +kernel
theorem dX5_move_0 : decode cX5_move 0 = .ok (.iconst 0, 1) := by decide +kernel
theorem dX5_move_1 : decode cX5_move 1 = .ok (.istore_n 3, 1) := by decide +kernel
theorem dX5_move_2 : decode cX5_move 2 = .ok (.iconst 0, 1) := by decide +kernel
theorem dX5_move_3 : decode cX5_move 3 = .ok (.istore 4, 2) := by decide +kernel
theorem dX5_move_5 : decode cX5_move 5 = .ok (.iconst 0, 1) := by decide +kernel
theorem dX5_move_6 : decode cX5_move 6 = .ok (.istore 5, 2) := by decide +kernel
theorem dX5_move_8 : decode cX5_move 8 = .ok (.iload 5, 2) := by decide +kernel
theorem dX5_move_10 : decode cX5_move 10 = .ok (.bipush 16, 2) := by decide +kernel
theorem dX5_move_12 : decode cX5_move 12 = .ok (.if_icmp .ge 52, 3) := by decide +kernel
theorem dX5_move_15 : decode cX5_move 15 = .ok (.iload_n 1, 1) := by decide +kernel
theorem dX5_move_16 : decode cX5_move 16 = .ok (.iload 5, 2) := by decide +kernel
theorem dX5_move_18 : decode cX5_move 18 = .ok (.invokestatic 30, 3) := by decide +kernel
theorem dX5_move_21 : decode cX5_move 21 = .ok (.ifCond .eq 37, 3) := by decide +kernel
theorem dX5_move_24 : decode cX5_move 24 = .ok (.aload_n 0, 1) := by decide +kernel
theorem dX5_move_25 : decode cX5_move 25 = .ok (.getfield 9, 3) := by decide +kernel
theorem dX5_move_28 : decode cX5_move 28 = .ok (.iload 5, 2) := by decide +kernel
theorem dX5_move_30 : decode cX5_move 30 = .ok (.iaload, 1) := by decide +kernel
theorem dX5_move_31 : decode cX5_move 31 = .ok (.istore 6, 2) := by decide +kernel
theorem dX5_move_33 : decode cX5_move 33 = .ok (.aload_n 0, 1) := by decide +kernel
theorem dX5_move_34 : decode cX5_move 34 = .ok (.iload 5, 2) := by decide +kernel
theorem dX5_move_36 : decode cX5_move 36 = .ok (.invokevirtual 34, 3) := by decide +kernel
theorem dX5_move_39 : decode cX5_move 39 = .ok (.iload 4, 2) := by decide +kernel
theorem dX5_move_41 : decode cX5_move 41 = .ok (.iconst 1, 1) := by decide +kernel
theorem dX5_move_42 : decode cX5_move 42 = .ok (.iload 6, 2) := by decide +kernel
theorem dX5_move_44 : decode cX5_move 44 = .ok (.ishl, 1) := by decide +kernel
theorem dX5_move_45 : decode cX5_move 45 = .ok (.ior, 1) := by decide +kernel
theorem dX5_move_46 : decode cX5_move 46 = .ok (.istore 4, 2) := by decide +kernel
theorem dX5_move_48 : decode cX5_move 48 = .ok (.iload_n 3, 1) := by decide +kernel
theorem dX5_move_49 : decode cX5_move 49 = .ok (.iload 6, 2) := by decide +kernel
theorem dX5_move_51 : decode cX5_move 51 = .ok (.iconst 2, 1) := by decide +kernel
theorem dX5_move_52 : decode cX5_move 52 = .ok (.idiv, 1) := by decide +kernel
theorem dX5_move_53 : decode cX5_move 53 = .ok (.invokestatic 38, 3) := by decide +kernel
theorem dX5_move_56 : decode cX5_move 56 = .ok (.ior, 1) := by decide +kernel
theorem dX5_move_57 : decode cX5_move 57 = .ok (.istore_n 3, 1) := by decide +kernel
theorem dX5_move_58 : decode cX5_move 58 = .ok (.iinc 5 1, 3) := by decide +kernel
theorem dX5_move_61 : decode cX5_move 61 = .ok (.goto (-53), 3) := by decide +kernel
theorem dX5_move_64 : decode cX5_move 64 = .ok (.iconst 0, 1) := by decide +kernel
theorem dX5_move_65 : decode cX5_move 65 = .ok (.istore 5, 2) := by decide +kernel
theorem dX5_move_67 : decode cX5_move 67 = .ok (.iload 5, 2) := by decide +kernel
theorem dX5_move_69 : decode cX5_move 69 = .ok (.bipush 16, 2) := by decide +kernel
theorem dX5_move_71 : decode cX5_move 71 = .ok (.if_icmp .ge 64, 3) := by decide +kernel
theorem dX5_move_74 : decode cX5_move 74 = .ok (.iload_n 2, 1) := by decide +kernel
theorem dX5_move_75 : decode cX5_move 75 = .ok (.iload 5, 2) := by decide +kernel
theorem dX5_move_77 : decode cX5_move 77 = .ok (.invokestatic 30, 3) := by decide +kernel
theorem dX5_move_80 : decode cX5_move 80 = .ok (.ifCond .eq 49, 3) := by decide +kernel
theorem dX5_move_83 : decode cX5_move 83 = .ok (.iload 4, 2) := by decide +kernel
theorem dX5_move_85 : decode cX5_move 85 = .ok (.ifCond .ne 10, 3) := by decide +kernel
theorem dX5_move_88 : decode cX5_move 88 = .ok (.aload_n 0, 1) := by decide +kernel
theorem dX5_move_89 : decode cX5_move 89 = .ok (.invokevirtual 42, 3) := by decide +kernel
theorem dX5_move_92 : decode cX5_move 92 = .ok (.goto 8, 3) := by decide +kernel
theorem dX5_move_95 : decode cX5_move 95 = .ok (.iload 4, 2) := by decide +kernel
theorem dX5_move_97 : decode cX5_move 97 = .ok (.invokestatic 46, 3) := by decide +kernel
theorem dX5_move_100 : decode cX5_move 100 = .ok (.istore 6, 2) := by decide +kernel
theorem dX5_move_102 : decode cX5_move 102 = .ok (.aload_n 0, 1) := by decide +kernel
theorem dX5_move_103 : decode cX5_move 103 = .ok (.iload 5, 2) := by decide +kernel
theorem dX5_move_105 : decode cX5_move 105 = .ok (.iload 6, 2) := by decide +kernel
theorem dX5_move_107 : decode cX5_move 107 = .ok (.invokevirtual 51, 3) := by decide +kernel
theorem dX5_move_110 : decode cX5_move 110 = .ok (.iload 4, 2) := by decide +kernel
theorem dX5_move_112 : decode cX5_move 112 = .ok (.iconst 1, 1) := by decide +kernel
theorem dX5_move_113 : decode cX5_move 113 = .ok (.iload 6, 2) := by decide +kernel
theorem dX5_move_115 : decode cX5_move 115 = .ok (.ishl, 1) := by decide +kernel
theorem dX5_move_116 : decode cX5_move 116 = .ok (.iconst (-1), 1) := by decide +kernel
theorem dX5_move_117 : decode cX5_move 117 = .ok (.ixor, 1) := by decide +kernel
theorem dX5_move_118 : decode cX5_move 118 = .ok (.iand, 1) := by decide +kernel
theorem dX5_move_119 : decode cX5_move 119 = .ok (.istore 4, 2) := by decide +kernel
theorem dX5_move_121 : decode cX5_move 121 = .ok (.iload_n 3, 1) := by decide +kernel
theorem dX5_move_122 : decode cX5_move 122 = .ok (.iload 6, 2) := by decide +kernel
theorem dX5_move_124 : decode cX5_move 124 = .ok (.invokestatic 38, 3) := by decide +kernel
theorem dX5_move_127 : decode cX5_move 127 = .ok (.ior, 1) := by decide +kernel
theorem dX5_move_128 : decode cX5_move 128 = .ok (.istore_n 3, 1) := by decide +kernel
theorem dX5_move_129 : decode cX5_move 129 = .ok (.iinc 5 1, 3) := by decide +kernel
theorem dX5_move_132 : decode cX5_move 132 = .ok (.goto (-65), 3) := by decide +kernel
theorem dX5_move_135 : decode cX5_move 135 = .ok (.iload_n 3, 1) := by decide +kernel
theorem dX5_move_136 : decode cX5_move 136 = .ok (.ireturn, 1) := by decide +kernel
theorem dX5_lettersFor_0 : decode cX5_lettersFor 0 = .ok (.iconst 0, 1) := by decide +kernel
theorem dX5_lettersFor_1 : decode cX5_lettersFor 1 = .ok (.istore_n 2, 1) := by decide +kernel
theorem dX5_lettersFor_2 : decode cX5_lettersFor 2 = .ok (.iconst 1, 1) := by decide +kernel
theorem dX5_lettersFor_3 : decode cX5_lettersFor 3 = .ok (.istore_n 3, 1) := by decide +kernel
theorem dX5_lettersFor_4 : decode cX5_lettersFor 4 = .ok (.iload_n 3, 1) := by decide +kernel
theorem dX5_lettersFor_5 : decode cX5_lettersFor 5 = .ok (.bipush 16, 2) := by decide +kernel
theorem dX5_lettersFor_7 : decode cX5_lettersFor 7 = .ok (.if_icmp .ge 53, 3) := by decide +kernel
theorem dX5_lettersFor_10 : decode cX5_lettersFor 10 = .ok (.iload_n 1, 1) := by decide +kernel
theorem dX5_lettersFor_11 : decode cX5_lettersFor 11 = .ok (.iload_n 3, 1) := by decide +kernel
theorem dX5_lettersFor_12 : decode cX5_lettersFor 12 = .ok (.invokestatic 30, 3) := by decide +kernel
theorem dX5_lettersFor_15 : decode cX5_lettersFor 15 = .ok (.ifCond .eq 39, 3) := by decide +kernel
theorem dX5_lettersFor_18 : decode cX5_lettersFor 18 = .ok (.iload_n 2, 1) := by decide +kernel
theorem dX5_lettersFor_19 : decode cX5_lettersFor 19 = .ok (.aload_n 0, 1) := by decide +kernel
theorem dX5_lettersFor_20 : decode cX5_lettersFor 20 = .ok (.iconst 2, 1) := by decide +kernel
theorem dX5_lettersFor_21 : decode cX5_lettersFor 21 = .ok (.iload_n 3, 1) := by decide +kernel
theorem dX5_lettersFor_22 : decode cX5_lettersFor 22 = .ok (.imul, 1) := by decide +kernel
theorem dX5_lettersFor_23 : decode cX5_lettersFor 23 = .ok (.invokevirtual 55, 3) := by decide +kernel
theorem dX5_lettersFor_26 : decode cX5_lettersFor 26 = .ok (.ifCond .eq 7, 3) := by decide +kernel
theorem dX5_lettersFor_29 : decode cX5_lettersFor 29 = .ok (.iconst 1, 1) := by decide +kernel
theorem dX5_lettersFor_30 : decode cX5_lettersFor 30 = .ok (.goto 4, 3) := by decide +kernel
theorem dX5_lettersFor_33 : decode cX5_lettersFor 33 = .ok (.iconst 0, 1) := by decide +kernel
theorem dX5_lettersFor_34 : decode cX5_lettersFor 34 = .ok (.aload_n 0, 1) := by decide +kernel
theorem dX5_lettersFor_35 : decode cX5_lettersFor 35 = .ok (.iconst 2, 1) := by decide +kernel
theorem dX5_lettersFor_36 : decode cX5_lettersFor 36 = .ok (.iload_n 3, 1) := by decide +kernel
theorem dX5_lettersFor_37 : decode cX5_lettersFor 37 = .ok (.imul, 1) := by decide +kernel
theorem dX5_lettersFor_38 : decode cX5_lettersFor 38 = .ok (.iconst 1, 1) := by decide +kernel
theorem dX5_lettersFor_39 : decode cX5_lettersFor 39 = .ok (.iadd, 1) := by decide +kernel
theorem dX5_lettersFor_40 : decode cX5_lettersFor 40 = .ok (.invokevirtual 55, 3) := by decide +kernel
theorem dX5_lettersFor_43 : decode cX5_lettersFor 43 = .ok (.ifCond .eq 7, 3) := by decide +kernel
theorem dX5_lettersFor_46 : decode cX5_lettersFor 46 = .ok (.iconst 1, 1) := by decide +kernel
theorem dX5_lettersFor_47 : decode cX5_lettersFor 47 = .ok (.goto 4, 3) := by decide +kernel
theorem dX5_lettersFor_50 : decode cX5_lettersFor 50 = .ok (.iconst 0, 1) := by decide +kernel
theorem dX5_lettersFor_51 : decode cX5_lettersFor 51 = .ok (.iadd, 1) := by decide +kernel
theorem dX5_lettersFor_52 : decode cX5_lettersFor 52 = .ok (.iadd, 1) := by decide +kernel
theorem dX5_lettersFor_53 : decode cX5_lettersFor 53 = .ok (.istore_n 2, 1) := by decide +kernel
theorem dX5_lettersFor_54 : decode cX5_lettersFor 54 = .ok (.iinc 3 1, 3) := by decide +kernel
theorem dX5_lettersFor_57 : decode cX5_lettersFor 57 = .ok (.goto (-53), 3) := by decide +kernel
theorem dX5_lettersFor_60 : decode cX5_lettersFor 60 = .ok (.iload_n 2, 1) := by decide +kernel
theorem dX5_lettersFor_61 : decode cX5_lettersFor 61 = .ok (.ireturn, 1) := by decide +kernel
theorem dX5_sit_0 : decode cX5_sit 0 = .ok (.aload_n 0, 1) := by decide +kernel
theorem dX5_sit_1 : decode cX5_sit 1 = .ok (.getfield 9, 3) := by decide +kernel
theorem dX5_sit_4 : decode cX5_sit 4 = .ok (.iload_n 1, 1) := by decide +kernel
theorem dX5_sit_5 : decode cX5_sit 5 = .ok (.iload_n 2, 1) := by decide +kernel
theorem dX5_sit_6 : decode cX5_sit 6 = .ok (.iastore, 1) := by decide +kernel
theorem dX5_sit_7 : decode cX5_sit 7 = .ok (.iload_n 2, 1) := by decide +kernel
theorem dX5_sit_8 : decode cX5_sit 8 = .ok (.istore_n 3, 1) := by decide +kernel
theorem dX5_sit_9 : decode cX5_sit 9 = .ok (.iload_n 3, 1) := by decide +kernel
theorem dX5_sit_10 : decode cX5_sit 10 = .ok (.iconst 1, 1) := by decide +kernel
theorem dX5_sit_11 : decode cX5_sit 11 = .ok (.if_icmp .lt 22, 3) := by decide +kernel
theorem dX5_sit_14 : decode cX5_sit 14 = .ok (.aload_n 0, 1) := by decide +kernel
theorem dX5_sit_15 : decode cX5_sit 15 = .ok (.getfield 15, 3) := by decide +kernel
theorem dX5_sit_18 : decode cX5_sit 18 = .ok (.iload_n 3, 1) := by decide +kernel
theorem dX5_sit_19 : decode cX5_sit 19 = .ok (.dup2, 1) := by decide +kernel
theorem dX5_sit_20 : decode cX5_sit 20 = .ok (.iaload, 1) := by decide +kernel
theorem dX5_sit_21 : decode cX5_sit 21 = .ok (.iconst 1, 1) := by decide +kernel
theorem dX5_sit_22 : decode cX5_sit 22 = .ok (.iload_n 1, 1) := by decide +kernel
theorem dX5_sit_23 : decode cX5_sit 23 = .ok (.ishl, 1) := by decide +kernel
theorem dX5_sit_24 : decode cX5_sit 24 = .ok (.ior, 1) := by decide +kernel
theorem dX5_sit_25 : decode cX5_sit 25 = .ok (.iastore, 1) := by decide +kernel
theorem dX5_sit_26 : decode cX5_sit 26 = .ok (.iload_n 3, 1) := by decide +kernel
theorem dX5_sit_27 : decode cX5_sit 27 = .ok (.iconst 2, 1) := by decide +kernel
theorem dX5_sit_28 : decode cX5_sit 28 = .ok (.idiv, 1) := by decide +kernel
theorem dX5_sit_29 : decode cX5_sit 29 = .ok (.istore_n 3, 1) := by decide +kernel
theorem dX5_sit_30 : decode cX5_sit 30 = .ok (.goto (-21), 3) := by decide +kernel
theorem dX5_sit_33 : decode cX5_sit 33 = .ok (.return_, 1) := by decide +kernel
theorem dX5_stand_0 : decode cX5_stand 0 = .ok (.aload_n 0, 1) := by decide +kernel
theorem dX5_stand_1 : decode cX5_stand 1 = .ok (.getfield 9, 3) := by decide +kernel
theorem dX5_stand_4 : decode cX5_stand 4 = .ok (.iload_n 1, 1) := by decide +kernel
theorem dX5_stand_5 : decode cX5_stand 5 = .ok (.iaload, 1) := by decide +kernel
theorem dX5_stand_6 : decode cX5_stand 6 = .ok (.istore_n 2, 1) := by decide +kernel
theorem dX5_stand_7 : decode cX5_stand 7 = .ok (.iload_n 2, 1) := by decide +kernel
theorem dX5_stand_8 : decode cX5_stand 8 = .ok (.iconst 1, 1) := by decide +kernel
theorem dX5_stand_9 : decode cX5_stand 9 = .ok (.if_icmp .lt 24, 3) := by decide +kernel
theorem dX5_stand_12 : decode cX5_stand 12 = .ok (.aload_n 0, 1) := by decide +kernel
theorem dX5_stand_13 : decode cX5_stand 13 = .ok (.getfield 15, 3) := by decide +kernel
theorem dX5_stand_16 : decode cX5_stand 16 = .ok (.iload_n 2, 1) := by decide +kernel
theorem dX5_stand_17 : decode cX5_stand 17 = .ok (.dup2, 1) := by decide +kernel
theorem dX5_stand_18 : decode cX5_stand 18 = .ok (.iaload, 1) := by decide +kernel
theorem dX5_stand_19 : decode cX5_stand 19 = .ok (.iconst 1, 1) := by decide +kernel
theorem dX5_stand_20 : decode cX5_stand 20 = .ok (.iload_n 1, 1) := by decide +kernel
theorem dX5_stand_21 : decode cX5_stand 21 = .ok (.ishl, 1) := by decide +kernel
theorem dX5_stand_22 : decode cX5_stand 22 = .ok (.iconst (-1), 1) := by decide +kernel
theorem dX5_stand_23 : decode cX5_stand 23 = .ok (.ixor, 1) := by decide +kernel
theorem dX5_stand_24 : decode cX5_stand 24 = .ok (.iand, 1) := by decide +kernel
theorem dX5_stand_25 : decode cX5_stand 25 = .ok (.iastore, 1) := by decide +kernel
theorem dX5_stand_26 : decode cX5_stand 26 = .ok (.iload_n 2, 1) := by decide +kernel
theorem dX5_stand_27 : decode cX5_stand 27 = .ok (.iconst 2, 1) := by decide +kernel
theorem dX5_stand_28 : decode cX5_stand 28 = .ok (.idiv, 1) := by decide +kernel
theorem dX5_stand_29 : decode cX5_stand 29 = .ok (.istore_n 2, 1) := by decide +kernel
theorem dX5_stand_30 : decode cX5_stand 30 = .ok (.goto (-23), 3) := by decide +kernel
theorem dX5_stand_33 : decode cX5_stand 33 = .ok (.aload_n 0, 1) := by decide +kernel
theorem dX5_stand_34 : decode cX5_stand 34 = .ok (.getfield 9, 3) := by decide +kernel
theorem dX5_stand_37 : decode cX5_stand 37 = .ok (.iload_n 1, 1) := by decide +kernel
theorem dX5_stand_38 : decode cX5_stand 38 = .ok (.iconst 0, 1) := by decide +kernel
theorem dX5_stand_39 : decode cX5_stand 39 = .ok (.iastore, 1) := by decide +kernel
theorem dX5_stand_40 : decode cX5_stand 40 = .ok (.return_, 1) := by decide +kernel
theorem dX5_emptiestLeaf_0 : decode cX5_emptiestLeaf 0 = .ok (.iconst 1, 1) := by decide +kernel
theorem dX5_emptiestLeaf_1 : decode cX5_emptiestLeaf 1 = .ok (.istore_n 1, 1) := by decide +kernel
theorem dX5_emptiestLeaf_2 : decode cX5_emptiestLeaf 2 = .ok (.iload_n 1, 1) := by decide +kernel
theorem dX5_emptiestLeaf_3 : decode cX5_emptiestLeaf 3 = .ok (.bipush 16, 2) := by decide +kernel
theorem dX5_emptiestLeaf_5 : decode cX5_emptiestLeaf 5 = .ok (.if_icmp .ge 41, 3) := by decide +kernel
theorem dX5_emptiestLeaf_8 : decode cX5_emptiestLeaf 8 = .ok (.iconst 2, 1) := by decide +kernel
theorem dX5_emptiestLeaf_9 : decode cX5_emptiestLeaf 9 = .ok (.iload_n 1, 1) := by decide +kernel
theorem dX5_emptiestLeaf_10 : decode cX5_emptiestLeaf 10 = .ok (.imul, 1) := by decide +kernel
theorem dX5_emptiestLeaf_11 : decode cX5_emptiestLeaf 11 = .ok (.istore_n 2, 1) := by decide +kernel
theorem dX5_emptiestLeaf_12 : decode cX5_emptiestLeaf 12 = .ok (.iload_n 2, 1) := by decide +kernel
theorem dX5_emptiestLeaf_13 : decode cX5_emptiestLeaf 13 = .ok (.iconst 1, 1) := by decide +kernel
theorem dX5_emptiestLeaf_14 : decode cX5_emptiestLeaf 14 = .ok (.iadd, 1) := by decide +kernel
theorem dX5_emptiestLeaf_15 : decode cX5_emptiestLeaf 15 = .ok (.istore_n 3, 1) := by decide +kernel
theorem dX5_emptiestLeaf_16 : decode cX5_emptiestLeaf 16 = .ok (.aload_n 0, 1) := by decide +kernel
theorem dX5_emptiestLeaf_17 : decode cX5_emptiestLeaf 17 = .ok (.getfield 15, 3) := by decide +kernel
theorem dX5_emptiestLeaf_20 : decode cX5_emptiestLeaf 20 = .ok (.iload_n 3, 1) := by decide +kernel
theorem dX5_emptiestLeaf_21 : decode cX5_emptiestLeaf 21 = .ok (.iaload, 1) := by decide +kernel
theorem dX5_emptiestLeaf_22 : decode cX5_emptiestLeaf 22 = .ok (.invokestatic 59, 3) := by decide +kernel
theorem dX5_emptiestLeaf_25 : decode cX5_emptiestLeaf 25 = .ok (.aload_n 0, 1) := by decide +kernel
theorem dX5_emptiestLeaf_26 : decode cX5_emptiestLeaf 26 = .ok (.getfield 15, 3) := by decide +kernel
theorem dX5_emptiestLeaf_29 : decode cX5_emptiestLeaf 29 = .ok (.iload_n 2, 1) := by decide +kernel
theorem dX5_emptiestLeaf_30 : decode cX5_emptiestLeaf 30 = .ok (.iaload, 1) := by decide +kernel
theorem dX5_emptiestLeaf_31 : decode cX5_emptiestLeaf 31 = .ok (.invokestatic 59, 3) := by decide +kernel
theorem dX5_emptiestLeaf_34 : decode cX5_emptiestLeaf 34 = .ok (.if_icmp .ge 7, 3) := by decide +kernel
theorem dX5_emptiestLeaf_37 : decode cX5_emptiestLeaf 37 = .ok (.iload_n 3, 1) := by decide +kernel
theorem dX5_emptiestLeaf_38 : decode cX5_emptiestLeaf 38 = .ok (.goto 4, 3) := by decide +kernel
theorem dX5_emptiestLeaf_41 : decode cX5_emptiestLeaf 41 = .ok (.iload_n 2, 1) := by decide +kernel
theorem dX5_emptiestLeaf_42 : decode cX5_emptiestLeaf 42 = .ok (.istore_n 1, 1) := by decide +kernel
theorem dX5_emptiestLeaf_43 : decode cX5_emptiestLeaf 43 = .ok (.goto (-41), 3) := by decide +kernel
theorem dX5_emptiestLeaf_46 : decode cX5_emptiestLeaf 46 = .ok (.iload_n 1, 1) := by decide +kernel
theorem dX5_emptiestLeaf_47 : decode cX5_emptiestLeaf 47 = .ok (.ireturn, 1) := by decide +kernel
theorem dX5_pathFrom_0 : decode cX5_pathFrom 0 = .ok (.iconst 0, 1) := by decide +kernel
theorem dX5_pathFrom_1 : decode cX5_pathFrom 1 = .ok (.istore_n 1, 1) := by decide +kernel
theorem dX5_pathFrom_2 : decode cX5_pathFrom 2 = .ok (.iload_n 0, 1) := by decide +kernel
theorem dX5_pathFrom_3 : decode cX5_pathFrom 3 = .ok (.istore_n 2, 1) := by decide +kernel
theorem dX5_pathFrom_4 : decode cX5_pathFrom 4 = .ok (.iload_n 2, 1) := by decide +kernel
theorem dX5_pathFrom_5 : decode cX5_pathFrom 5 = .ok (.iconst 1, 1) := by decide +kernel
theorem dX5_pathFrom_6 : decode cX5_pathFrom 6 = .ok (.if_icmp .lt 16, 3) := by decide +kernel
theorem dX5_pathFrom_9 : decode cX5_pathFrom 9 = .ok (.iload_n 1, 1) := by decide +kernel
theorem dX5_pathFrom_10 : decode cX5_pathFrom 10 = .ok (.iconst 1, 1) := by decide +kernel
theorem dX5_pathFrom_11 : decode cX5_pathFrom 11 = .ok (.iload_n 2, 1) := by decide +kernel
theorem dX5_pathFrom_12 : decode cX5_pathFrom 12 = .ok (.ishl, 1) := by decide +kernel
theorem dX5_pathFrom_13 : decode cX5_pathFrom 13 = .ok (.ior, 1) := by decide +kernel
theorem dX5_pathFrom_14 : decode cX5_pathFrom 14 = .ok (.istore_n 1, 1) := by decide +kernel
theorem dX5_pathFrom_15 : decode cX5_pathFrom 15 = .ok (.iload_n 2, 1) := by decide +kernel
theorem dX5_pathFrom_16 : decode cX5_pathFrom 16 = .ok (.iconst 2, 1) := by decide +kernel
theorem dX5_pathFrom_17 : decode cX5_pathFrom 17 = .ok (.idiv, 1) := by decide +kernel
theorem dX5_pathFrom_18 : decode cX5_pathFrom 18 = .ok (.istore_n 2, 1) := by decide +kernel
theorem dX5_pathFrom_19 : decode cX5_pathFrom 19 = .ok (.goto (-15), 3) := by decide +kernel
theorem dX5_pathFrom_22 : decode cX5_pathFrom 22 = .ok (.iload_n 1, 1) := by decide +kernel
theorem dX5_pathFrom_23 : decode cX5_pathFrom 23 = .ok (.ireturn, 1) := by decide +kernel
theorem dX6_init_0 : decode cX6_init 0 = .ok (.aload_n 0, 1) := by decide +kernel
theorem dX6_init_1 : decode cX6_init 1 = .ok (.invokespecial 3, 3) := by decide +kernel
theorem dX6_init_4 : decode cX6_init 4 = .ok (.aload_n 0, 1) := by decide +kernel
theorem dX6_init_5 : decode cX6_init 5 = .ok (.bipush 24, 2) := by decide +kernel
theorem dX6_init_7 : decode cX6_init 7 = .ok (.newarray .long, 2) := by decide +kernel
theorem dX6_init_9 : decode cX6_init 9 = .ok (.putfield 9, 3) := by decide +kernel
theorem dX6_init_12 : decode cX6_init 12 = .ok (.aload_n 0, 1) := by decide +kernel
theorem dX6_init_13 : decode cX6_init 13 = .ok (.iconst (-1), 1) := by decide +kernel
theorem dX6_init_14 : decode cX6_init 14 = .ok (.putfield 15, 3) := by decide +kernel
theorem dX6_init_17 : decode cX6_init 17 = .ok (.return_, 1) := by decide +kernel
theorem dX6_renew_0 : decode cX6_renew 0 = .ok (.aload_n 0, 1) := by decide +kernel
theorem dX6_renew_1 : decode cX6_renew 1 = .ok (.iload_n 1, 1) := by decide +kernel
theorem dX6_renew_2 : decode cX6_renew 2 = .ok (.putfield 15, 3) := by decide +kernel
theorem dX6_renew_5 : decode cX6_renew 5 = .ok (.aload_n 0, 1) := by decide +kernel
theorem dX6_renew_6 : decode cX6_renew 6 = .ok (.iload_n 2, 1) := by decide +kernel
theorem dX6_renew_7 : decode cX6_renew 7 = .ok (.putfield 19, 3) := by decide +kernel
theorem dX6_renew_10 : decode cX6_renew 10 = .ok (.aload_n 0, 1) := by decide +kernel
theorem dX6_renew_11 : decode cX6_renew 11 = .ok (.getfield 9, 3) := by decide +kernel
theorem dX6_renew_14 : decode cX6_renew 14 = .ok (.lconst 0, 1) := by decide +kernel
theorem dX6_renew_15 : decode cX6_renew 15 = .ok (.invokestatic 22, 3) := by decide +kernel
theorem dX6_renew_18 : decode cX6_renew 18 = .ok (.return_, 1) := by decide +kernel
theorem dX6_refusal_0 : decode cX6_refusal 0 = .ok (.aload_n 0, 1) := by decide +kernel
theorem dX6_refusal_1 : decode cX6_refusal 1 = .ok (.getfield 15, 3) := by decide +kernel
theorem dX6_refusal_4 : decode cX6_refusal 4 = .ok (.iconst (-1), 1) := by decide +kernel
theorem dX6_refusal_5 : decode cX6_refusal 5 = .ok (.if_icmp .ne 6, 3) := by decide +kernel
theorem dX6_refusal_8 : decode cX6_refusal 8 = .ok (.bipush (-11), 2) := by decide +kernel
theorem dX6_refusal_10 : decode cX6_refusal 10 = .ok (.ireturn, 1) := by decide +kernel
theorem dX6_refusal_11 : decode cX6_refusal 11 = .ok (.aload_n 0, 1) := by decide +kernel
theorem dX6_refusal_12 : decode cX6_refusal 12 = .ok (.getfield 15, 3) := by decide +kernel
theorem dX6_refusal_15 : decode cX6_refusal 15 = .ok (.iload_n 1, 1) := by decide +kernel
theorem dX6_refusal_16 : decode cX6_refusal 16 = .ok (.if_icmp .eq 6, 3) := by decide +kernel
theorem dX6_refusal_19 : decode cX6_refusal 19 = .ok (.bipush (-12), 2) := by decide +kernel
theorem dX6_refusal_21 : decode cX6_refusal 21 = .ok (.ireturn, 1) := by decide +kernel
theorem dX6_refusal_22 : decode cX6_refusal 22 = .ok (.aload_n 0, 1) := by decide +kernel
theorem dX6_refusal_23 : decode cX6_refusal 23 = .ok (.iload_n 2, 1) := by decide +kernel
theorem dX6_refusal_24 : decode cX6_refusal 24 = .ok (.iload_n 3, 1) := by decide +kernel
theorem dX6_refusal_25 : decode cX6_refusal 25 = .ok (.invokevirtual 28, 3) := by decide +kernel
theorem dX6_refusal_28 : decode cX6_refusal 28 = .ok (.ifCond .eq 8, 3) := by decide +kernel
theorem dX6_refusal_31 : decode cX6_refusal 31 = .ok (.bipush (-13), 2) := by decide +kernel
theorem dX6_refusal_33 : decode cX6_refusal 33 = .ok (.goto 4, 3) := by decide +kernel
theorem dX6_refusal_36 : decode cX6_refusal 36 = .ok (.iconst 0, 1) := by decide +kernel
theorem dX6_refusal_37 : decode cX6_refusal 37 = .ok (.ireturn, 1) := by decide +kernel
theorem dX6_lacks_0 : decode cX6_lacks 0 = .ok (.iload_n 1, 1) := by decide +kernel
theorem dX6_lacks_1 : decode cX6_lacks 1 = .ok (.ifCond .lt 17, 3) := by decide +kernel
theorem dX6_lacks_4 : decode cX6_lacks 4 = .ok (.iload_n 2, 1) := by decide +kernel
theorem dX6_lacks_5 : decode cX6_lacks 5 = .ok (.ifCond .lt 13, 3) := by decide +kernel
theorem dX6_lacks_8 : decode cX6_lacks 8 = .ok (.iload_n 2, 1) := by decide +kernel
theorem dX6_lacks_9 : decode cX6_lacks 9 = .ok (.aload_n 0, 1) := by decide +kernel
theorem dX6_lacks_10 : decode cX6_lacks 10 = .ok (.getfield 19, 3) := by decide +kernel
theorem dX6_lacks_13 : decode cX6_lacks 13 = .ok (.iload_n 1, 1) := by decide +kernel
theorem dX6_lacks_14 : decode cX6_lacks 14 = .ok (.isub, 1) := by decide +kernel
theorem dX6_lacks_15 : decode cX6_lacks 15 = .ok (.if_icmp .le 7, 3) := by decide +kernel
theorem dX6_lacks_18 : decode cX6_lacks 18 = .ok (.iconst 1, 1) := by decide +kernel
theorem dX6_lacks_19 : decode cX6_lacks 19 = .ok (.goto 4, 3) := by decide +kernel
theorem dX6_lacks_22 : decode cX6_lacks 22 = .ok (.iconst 0, 1) := by decide +kernel
theorem dX6_lacks_23 : decode cX6_lacks 23 = .ok (.ireturn, 1) := by decide +kernel
theorem dX6_put_0 : decode cX6_put 0 = .ok (.aload_n 0, 1) := by decide +kernel
theorem dX6_put_1 : decode cX6_put 1 = .ok (.getfield 15, 3) := by decide +kernel
theorem dX6_put_4 : decode cX6_put 4 = .ok (.tableswitch 66 0 2 #[28, 41, 54], 28) := by decide +kernel
theorem dX6_put_32 : decode cX6_put 32 = .ok (.aload_n 0, 1) := by decide +kernel
theorem dX6_put_33 : decode cX6_put 33 = .ok (.getfield 9, 3) := by decide +kernel
theorem dX6_put_36 : decode cX6_put 36 = .ok (.iload_n 1, 1) := by decide +kernel
theorem dX6_put_37 : decode cX6_put 37 = .ok (.lload_n 2, 1) := by decide +kernel
theorem dX6_put_38 : decode cX6_put 38 = .ok (.l2i, 1) := by decide +kernel
theorem dX6_put_39 : decode cX6_put 39 = .ok (.i2b, 1) := by decide +kernel
theorem dX6_put_40 : decode cX6_put 40 = .ok (.i2l, 1) := by decide +kernel
theorem dX6_put_41 : decode cX6_put 41 = .ok (.lastore, 1) := by decide +kernel
theorem dX6_put_42 : decode cX6_put 42 = .ok (.goto 35, 3) := by decide +kernel
theorem dX6_put_45 : decode cX6_put 45 = .ok (.aload_n 0, 1) := by decide +kernel
theorem dX6_put_46 : decode cX6_put 46 = .ok (.getfield 9, 3) := by decide +kernel
theorem dX6_put_49 : decode cX6_put 49 = .ok (.iload_n 1, 1) := by decide +kernel
theorem dX6_put_50 : decode cX6_put 50 = .ok (.lload_n 2, 1) := by decide +kernel
theorem dX6_put_51 : decode cX6_put 51 = .ok (.l2i, 1) := by decide +kernel
theorem dX6_put_52 : decode cX6_put 52 = .ok (.i2s, 1) := by decide +kernel
theorem dX6_put_53 : decode cX6_put 53 = .ok (.i2l, 1) := by decide +kernel
theorem dX6_put_54 : decode cX6_put 54 = .ok (.lastore, 1) := by decide +kernel
theorem dX6_put_55 : decode cX6_put 55 = .ok (.goto 22, 3) := by decide +kernel
theorem dX6_put_58 : decode cX6_put 58 = .ok (.aload_n 0, 1) := by decide +kernel
theorem dX6_put_59 : decode cX6_put 59 = .ok (.getfield 9, 3) := by decide +kernel
theorem dX6_put_62 : decode cX6_put 62 = .ok (.iload_n 1, 1) := by decide +kernel
theorem dX6_put_63 : decode cX6_put 63 = .ok (.lload_n 2, 1) := by decide +kernel
theorem dX6_put_64 : decode cX6_put 64 = .ok (.l2i, 1) := by decide +kernel
theorem dX6_put_65 : decode cX6_put 65 = .ok (.i2l, 1) := by decide +kernel
theorem dX6_put_66 : decode cX6_put 66 = .ok (.lastore, 1) := by decide +kernel
theorem dX6_put_67 : decode cX6_put 67 = .ok (.goto 10, 3) := by decide +kernel
theorem dX6_put_70 : decode cX6_put 70 = .ok (.aload_n 0, 1) := by decide +kernel
theorem dX6_put_71 : decode cX6_put 71 = .ok (.getfield 9, 3) := by decide +kernel
theorem dX6_put_74 : decode cX6_put 74 = .ok (.iload_n 1, 1) := by decide +kernel
theorem dX6_put_75 : decode cX6_put 75 = .ok (.lload_n 2, 1) := by decide +kernel
theorem dX6_put_76 : decode cX6_put 76 = .ok (.lastore, 1) := by decide +kernel
theorem dX6_put_77 : decode cX6_put 77 = .ok (.return_, 1) := by decide +kernel
theorem dX7_init_0 : decode cX7_init 0 = .ok (.aload_n 0, 1) := by decide +kernel
theorem dX7_init_1 : decode cX7_init 1 = .ok (.invokespecial 3, 3) := by decide +kernel
theorem dX7_init_4 : decode cX7_init 4 = .ok (.aload_n 0, 1) := by decide +kernel
theorem dX7_init_5 : decode cX7_init 5 = .ok (.bipush 90, 2) := by decide +kernel
theorem dX7_init_7 : decode cX7_init 7 = .ok (.newarray .char, 2) := by decide +kernel
theorem dX7_init_9 : decode cX7_init 9 = .ok (.putfield 9, 3) := by decide +kernel
theorem dX7_init_12 : decode cX7_init 12 = .ok (.return_, 1) := by decide +kernel
theorem dX7_add_0 : decode cX7_add 0 = .ok (.aload_n 0, 1) := by decide +kernel
theorem dX7_add_1 : decode cX7_add 1 = .ok (.getfield 15, 3) := by decide +kernel
theorem dX7_add_4 : decode cX7_add 4 = .ok (.bipush 90, 2) := by decide +kernel
theorem dX7_add_6 : decode cX7_add 6 = .ok (.if_icmp .lt 4, 3) := by decide +kernel
theorem dX7_add_9 : decode cX7_add 9 = .ok (.return_, 1) := by decide +kernel
theorem dX7_add_10 : decode cX7_add 10 = .ok (.aload_n 0, 1) := by decide +kernel
theorem dX7_add_11 : decode cX7_add 11 = .ok (.getfield 9, 3) := by decide +kernel
theorem dX7_add_14 : decode cX7_add 14 = .ok (.aload_n 0, 1) := by decide +kernel
theorem dX7_add_15 : decode cX7_add 15 = .ok (.getfield 15, 3) := by decide +kernel
theorem dX7_add_18 : decode cX7_add 18 = .ok (.iload_n 1, 1) := by decide +kernel
theorem dX7_add_19 : decode cX7_add 19 = .ok (.castore, 1) := by decide +kernel
theorem dX7_add_20 : decode cX7_add 20 = .ok (.aload_n 0, 1) := by decide +kernel
theorem dX7_add_21 : decode cX7_add 21 = .ok (.dup, 1) := by decide +kernel
theorem dX7_add_22 : decode cX7_add 22 = .ok (.getfield 15, 3) := by decide +kernel
theorem dX7_add_25 : decode cX7_add 25 = .ok (.iconst 1, 1) := by decide +kernel
theorem dX7_add_26 : decode cX7_add 26 = .ok (.iadd, 1) := by decide +kernel
theorem dX7_add_27 : decode cX7_add 27 = .ok (.putfield 15, 3) := by decide +kernel
theorem dX7_add_30 : decode cX7_add 30 = .ok (.return_, 1) := by decide +kernel
theorem dX7_fault_0 : decode cX7_fault 0 = .ok (.iconst 0, 1) := by decide +kernel
theorem dX7_fault_1 : decode cX7_fault 1 = .ok (.istore_n 1, 1) := by decide +kernel
theorem dX7_fault_2 : decode cX7_fault 2 = .ok (.iconst 0, 1) := by decide +kernel
theorem dX7_fault_3 : decode cX7_fault 3 = .ok (.istore_n 2, 1) := by decide +kernel
theorem dX7_fault_4 : decode cX7_fault 4 = .ok (.iconst 0, 1) := by decide +kernel
theorem dX7_fault_5 : decode cX7_fault 5 = .ok (.istore_n 3, 1) := by decide +kernel
theorem dX7_fault_6 : decode cX7_fault 6 = .ok (.iload_n 3, 1) := by decide +kernel
theorem dX7_fault_7 : decode cX7_fault 7 = .ok (.aload_n 0, 1) := by decide +kernel
theorem dX7_fault_8 : decode cX7_fault 8 = .ok (.getfield 15, 3) := by decide +kernel
theorem dX7_fault_11 : decode cX7_fault 11 = .ok (.if_icmp .ge 81, 3) := by decide +kernel
theorem dX7_fault_14 : decode cX7_fault 14 = .ok (.aload_n 0, 1) := by decide +kernel
theorem dX7_fault_15 : decode cX7_fault 15 = .ok (.getfield 9, 3) := by decide +kernel
theorem dX7_fault_18 : decode cX7_fault 18 = .ok (.iload_n 3, 1) := by decide +kernel
theorem dX7_fault_19 : decode cX7_fault 19 = .ok (.caload, 1) := by decide +kernel
theorem dX7_fault_20 : decode cX7_fault 20 = .ok (.istore 4, 2) := by decide +kernel
theorem dX7_fault_22 : decode cX7_fault 22 = .ok (.iload 4, 2) := by decide +kernel
theorem dX7_fault_24 : decode cX7_fault 24 = .ok (.bipush 32, 2) := by decide +kernel
theorem dX7_fault_26 : decode cX7_fault 26 = .ok (.if_icmp .ne 6, 3) := by decide +kernel
theorem dX7_fault_29 : decode cX7_fault 29 = .ok (.goto 57, 3) := by decide +kernel
theorem dX7_fault_32 : decode cX7_fault 32 = .ok (.iload_n 2, 1) := by decide +kernel
theorem dX7_fault_33 : decode cX7_fault 33 = .ok (.ifCond .eq 14, 3) := by decide +kernel
theorem dX7_fault_36 : decode cX7_fault 36 = .ok (.iload 4, 2) := by decide +kernel
theorem dX7_fault_38 : decode cX7_fault 38 = .ok (.invokestatic 19, 3) := by decide +kernel
theorem dX7_fault_41 : decode cX7_fault 41 = .ok (.ifCond .ge 16, 3) := by decide +kernel
theorem dX7_fault_44 : decode cX7_fault 44 = .ok (.goto 11, 3) := by decide +kernel
theorem dX7_fault_47 : decode cX7_fault 47 = .ok (.iload 4, 2) := by decide +kernel
theorem dX7_fault_49 : decode cX7_fault 49 = .ok (.invokestatic 23, 3) := by decide +kernel
theorem dX7_fault_52 : decode cX7_fault 52 = .ok (.ifCond .ne 5, 3) := by decide +kernel
theorem dX7_fault_55 : decode cX7_fault 55 = .ok (.iload_n 3, 1) := by decide +kernel
theorem dX7_fault_56 : decode cX7_fault 56 = .ok (.ireturn, 1) := by decide +kernel
theorem dX7_fault_57 : decode cX7_fault 57 = .ok (.iload_n 2, 1) := by decide +kernel
theorem dX7_fault_58 : decode cX7_fault 58 = .ok (.ifCond .ne 14, 3) := by decide +kernel
theorem dX7_fault_61 : decode cX7_fault 61 = .ok (.iload 4, 2) := by decide +kernel
theorem dX7_fault_63 : decode cX7_fault 63 = .ok (.bipush 33, 2) := by decide +kernel
theorem dX7_fault_65 : decode cX7_fault 65 = .ok (.if_icmp .eq 7, 3) := by decide +kernel
theorem dX7_fault_68 : decode cX7_fault 68 = .ok (.iconst 1, 1) := by decide +kernel
theorem dX7_fault_69 : decode cX7_fault 69 = .ok (.goto 4, 3) := by decide +kernel
theorem dX7_fault_72 : decode cX7_fault 72 = .ok (.iconst 0, 1) := by decide +kernel
theorem dX7_fault_73 : decode cX7_fault 73 = .ok (.istore_n 2, 1) := by decide +kernel
theorem dX7_fault_74 : decode cX7_fault 74 = .ok (.iload_n 1, 1) := by decide +kernel
theorem dX7_fault_75 : decode cX7_fault 75 = .ok (.iload_n 2, 1) := by decide +kernel
theorem dX7_fault_76 : decode cX7_fault 76 = .ok (.ifCond .ne 7, 3) := by decide +kernel
theorem dX7_fault_79 : decode cX7_fault 79 = .ok (.iconst 1, 1) := by decide +kernel
theorem dX7_fault_80 : decode cX7_fault 80 = .ok (.goto 4, 3) := by decide +kernel
theorem dX7_fault_83 : decode cX7_fault 83 = .ok (.iconst 0, 1) := by decide +kernel
theorem dX7_fault_84 : decode cX7_fault 84 = .ok (.ior, 1) := by decide +kernel
theorem dX7_fault_85 : decode cX7_fault 85 = .ok (.istore_n 1, 1) := by decide +kernel
theorem dX7_fault_86 : decode cX7_fault 86 = .ok (.iinc 3 1, 3) := by decide +kernel
theorem dX7_fault_89 : decode cX7_fault 89 = .ok (.goto (-83), 3) := by decide +kernel
theorem dX7_fault_92 : decode cX7_fault 92 = .ok (.iload_n 2, 1) := by decide +kernel
theorem dX7_fault_93 : decode cX7_fault 93 = .ok (.ifCond .ne 7, 3) := by decide +kernel
theorem dX7_fault_96 : decode cX7_fault 96 = .ok (.iload_n 1, 1) := by decide +kernel
theorem dX7_fault_97 : decode cX7_fault 97 = .ok (.ifCond .ne 10, 3) := by decide +kernel
theorem dX7_fault_100 : decode cX7_fault 100 = .ok (.aload_n 0, 1) := by decide +kernel
theorem dX7_fault_101 : decode cX7_fault 101 = .ok (.getfield 15, 3) := by decide +kernel
theorem dX7_fault_104 : decode cX7_fault 104 = .ok (.goto 4, 3) := by decide +kernel
theorem dX7_fault_107 : decode cX7_fault 107 = .ok (.iconst (-1), 1) := by decide +kernel
theorem dX7_fault_108 : decode cX7_fault 108 = .ok (.ireturn, 1) := by decide +kernel
theorem dX7_startsEvent_0 : decode cX7_startsEvent 0 = .ok (.iload_n 0, 1) := by decide +kernel
theorem dX7_startsEvent_1 : decode cX7_startsEvent 1 = .ok (.bipush 43, 2) := by decide +kernel
theorem dX7_startsEvent_3 : decode cX7_startsEvent 3 = .ok (.if_icmp .eq 15, 3) := by decide +kernel
theorem dX7_startsEvent_6 : decode cX7_startsEvent 6 = .ok (.iload_n 0, 1) := by decide +kernel
theorem dX7_startsEvent_7 : decode cX7_startsEvent 7 = .ok (.bipush 45, 2) := by decide +kernel
theorem dX7_startsEvent_9 : decode cX7_startsEvent 9 = .ok (.if_icmp .eq 9, 3) := by decide +kernel
theorem dX7_startsEvent_12 : decode cX7_startsEvent 12 = .ok (.iload_n 0, 1) := by decide +kernel
theorem dX7_startsEvent_13 : decode cX7_startsEvent 13 = .ok (.bipush 33, 2) := by decide +kernel
theorem dX7_startsEvent_15 : decode cX7_startsEvent 15 = .ok (.if_icmp .ne 7, 3) := by decide +kernel
theorem dX7_startsEvent_18 : decode cX7_startsEvent 18 = .ok (.iconst 1, 1) := by decide +kernel
theorem dX7_startsEvent_19 : decode cX7_startsEvent 19 = .ok (.goto 4, 3) := by decide +kernel
theorem dX7_startsEvent_22 : decode cX7_startsEvent 22 = .ok (.iconst 0, 1) := by decide +kernel
theorem dX7_startsEvent_23 : decode cX7_startsEvent 23 = .ok (.ireturn, 1) := by decide +kernel
theorem dX7_figure_0 : decode cX7_figure 0 = .ok (.iload_n 0, 1) := by decide +kernel
theorem dX7_figure_1 : decode cX7_figure 1 = .ok (.bipush 48, 2) := by decide +kernel
theorem dX7_figure_3 : decode cX7_figure 3 = .ok (.if_icmp .lt 14, 3) := by decide +kernel
theorem dX7_figure_6 : decode cX7_figure 6 = .ok (.iload_n 0, 1) := by decide +kernel
theorem dX7_figure_7 : decode cX7_figure 7 = .ok (.bipush 57, 2) := by decide +kernel
theorem dX7_figure_9 : decode cX7_figure 9 = .ok (.if_icmp .gt 8, 3) := by decide +kernel
theorem dX7_figure_12 : decode cX7_figure 12 = .ok (.iload_n 0, 1) := by decide +kernel
theorem dX7_figure_13 : decode cX7_figure 13 = .ok (.bipush 48, 2) := by decide +kernel
theorem dX7_figure_15 : decode cX7_figure 15 = .ok (.isub, 1) := by decide +kernel
theorem dX7_figure_16 : decode cX7_figure 16 = .ok (.ireturn, 1) := by decide +kernel
theorem dX7_figure_17 : decode cX7_figure 17 = .ok (.iload_n 0, 1) := by decide +kernel
theorem dX7_figure_18 : decode cX7_figure 18 = .ok (.bipush 97, 2) := by decide +kernel
theorem dX7_figure_20 : decode cX7_figure 20 = .ok (.if_icmp .lt 17, 3) := by decide +kernel
theorem dX7_figure_23 : decode cX7_figure 23 = .ok (.iload_n 0, 1) := by decide +kernel
theorem dX7_figure_24 : decode cX7_figure 24 = .ok (.bipush 102, 2) := by decide +kernel
theorem dX7_figure_26 : decode cX7_figure 26 = .ok (.if_icmp .gt 11, 3) := by decide +kernel
theorem dX7_figure_29 : decode cX7_figure 29 = .ok (.iload_n 0, 1) := by decide +kernel
theorem dX7_figure_30 : decode cX7_figure 30 = .ok (.bipush 97, 2) := by decide +kernel
theorem dX7_figure_32 : decode cX7_figure 32 = .ok (.isub, 1) := by decide +kernel
theorem dX7_figure_33 : decode cX7_figure 33 = .ok (.bipush 10, 2) := by decide +kernel
theorem dX7_figure_35 : decode cX7_figure 35 = .ok (.iadd, 1) := by decide +kernel
theorem dX7_figure_36 : decode cX7_figure 36 = .ok (.ireturn, 1) := by decide +kernel
theorem dX7_figure_37 : decode cX7_figure 37 = .ok (.iconst (-1), 1) := by decide +kernel
theorem dX7_figure_38 : decode cX7_figure 38 = .ok (.ireturn, 1) := by decide +kernel
theorem dX8_init_0 : decode cX8_init 0 = .ok (.aload_n 0, 1) := by decide +kernel
theorem dX8_init_1 : decode cX8_init 1 = .ok (.invokespecial 3, 3) := by decide +kernel
theorem dX8_init_4 : decode cX8_init 4 = .ok (.aload_n 0, 1) := by decide +kernel
theorem dX8_init_5 : decode cX8_init 5 = .ok (.new 9, 3) := by decide +kernel
theorem dX8_init_8 : decode cX8_init 8 = .ok (.dup, 1) := by decide +kernel
theorem dX8_init_9 : decode cX8_init 9 = .ok (.invokespecial 11, 3) := by decide +kernel
theorem dX8_init_12 : decode cX8_init 12 = .ok (.putfield 12, 3) := by decide +kernel
theorem dX8_init_15 : decode cX8_init 15 = .ok (.aload_n 0, 1) := by decide +kernel
theorem dX8_init_16 : decode cX8_init 16 = .ok (.new 16, 3) := by decide +kernel
theorem dX8_init_19 : decode cX8_init 19 = .ok (.dup, 1) := by decide +kernel
theorem dX8_init_20 : decode cX8_init 20 = .ok (.invokespecial 18, 3) := by decide +kernel
theorem dX8_init_23 : decode cX8_init 23 = .ok (.putfield 19, 3) := by decide +kernel
theorem dX8_init_26 : decode cX8_init 26 = .ok (.aload_n 0, 1) := by decide +kernel
theorem dX8_init_27 : decode cX8_init 27 = .ok (.new 9, 3) := by decide +kernel
theorem dX8_init_30 : decode cX8_init 30 = .ok (.dup, 1) := by decide +kernel
theorem dX8_init_31 : decode cX8_init 31 = .ok (.invokespecial 11, 3) := by decide +kernel
theorem dX8_init_34 : decode cX8_init 34 = .ok (.putfield 23, 3) := by decide +kernel
theorem dX8_init_37 : decode cX8_init 37 = .ok (.aload_n 0, 1) := by decide +kernel
theorem dX8_init_38 : decode cX8_init 38 = .ok (.new 16, 3) := by decide +kernel
theorem dX8_init_41 : decode cX8_init 41 = .ok (.dup, 1) := by decide +kernel
theorem dX8_init_42 : decode cX8_init 42 = .ok (.invokespecial 18, 3) := by decide +kernel
theorem dX8_init_45 : decode cX8_init 45 = .ok (.putfield 26, 3) := by decide +kernel
theorem dX8_init_48 : decode cX8_init 48 = .ok (.aload_n 0, 1) := by decide +kernel
theorem dX8_init_49 : decode cX8_init 49 = .ok (.new 29, 3) := by decide +kernel
theorem dX8_init_52 : decode cX8_init 52 = .ok (.dup, 1) := by decide +kernel
theorem dX8_init_53 : decode cX8_init 53 = .ok (.invokespecial 31, 3) := by decide +kernel
theorem dX8_init_56 : decode cX8_init 56 = .ok (.putfield 32, 3) := by decide +kernel
theorem dX8_init_59 : decode cX8_init 59 = .ok (.aload_n 0, 1) := by decide +kernel
theorem dX8_init_60 : decode cX8_init 60 = .ok (.iconst 4, 1) := by decide +kernel
theorem dX8_init_61 : decode cX8_init 61 = .ok (.anewarray 36, 3) := by decide +kernel
theorem dX8_init_64 : decode cX8_init 64 = .ok (.putfield 38, 3) := by decide +kernel
theorem dX8_init_67 : decode cX8_init 67 = .ok (.aload_n 0, 1) := by decide +kernel
theorem dX8_init_68 : decode cX8_init 68 = .ok (.new 42, 3) := by decide +kernel
theorem dX8_init_71 : decode cX8_init 71 = .ok (.dup, 1) := by decide +kernel
theorem dX8_init_72 : decode cX8_init 72 = .ok (.invokespecial 44, 3) := by decide +kernel
theorem dX8_init_75 : decode cX8_init 75 = .ok (.putfield 45, 3) := by decide +kernel
theorem dX8_init_78 : decode cX8_init 78 = .ok (.aload_n 0, 1) := by decide +kernel
theorem dX8_init_79 : decode cX8_init 79 = .ok (.new 49, 3) := by decide +kernel
theorem dX8_init_82 : decode cX8_init 82 = .ok (.dup, 1) := by decide +kernel
theorem dX8_init_83 : decode cX8_init 83 = .ok (.invokespecial 51, 3) := by decide +kernel
theorem dX8_init_86 : decode cX8_init 86 = .ok (.putfield 52, 3) := by decide +kernel
theorem dX8_init_89 : decode cX8_init 89 = .ok (.iconst 0, 1) := by decide +kernel
theorem dX8_init_90 : decode cX8_init 90 = .ok (.istore_n 1, 1) := by decide +kernel
theorem dX8_init_91 : decode cX8_init 91 = .ok (.iload_n 1, 1) := by decide +kernel
theorem dX8_init_92 : decode cX8_init 92 = .ok (.iconst 4, 1) := by decide +kernel
theorem dX8_init_93 : decode cX8_init 93 = .ok (.if_icmp .ge 22, 3) := by decide +kernel
theorem dX8_init_96 : decode cX8_init 96 = .ok (.aload_n 0, 1) := by decide +kernel
theorem dX8_init_97 : decode cX8_init 97 = .ok (.getfield 38, 3) := by decide +kernel
theorem dX8_init_100 : decode cX8_init 100 = .ok (.iload_n 1, 1) := by decide +kernel
theorem dX8_init_101 : decode cX8_init 101 = .ok (.new 36, 3) := by decide +kernel
theorem dX8_init_104 : decode cX8_init 104 = .ok (.dup, 1) := by decide +kernel
theorem dX8_init_105 : decode cX8_init 105 = .ok (.invokespecial 56, 3) := by decide +kernel
theorem dX8_init_108 : decode cX8_init 108 = .ok (.aastore, 1) := by decide +kernel
theorem dX8_init_109 : decode cX8_init 109 = .ok (.iinc 1 1, 3) := by decide +kernel
theorem dX8_init_112 : decode cX8_init 112 = .ok (.goto (-21), 3) := by decide +kernel
theorem dX8_init_115 : decode cX8_init 115 = .ok (.return_, 1) := by decide +kernel
theorem dX8_come_0 : decode cX8_come 0 = .ok (.iload_n 1, 1) := by decide +kernel
theorem dX8_come_1 : decode cX8_come 1 = .ok (.invokestatic 57, 3) := by decide +kernel
theorem dX8_come_4 : decode cX8_come 4 = .ok (.ifCond .eq 5, 3) := by decide +kernel
theorem dX8_come_7 : decode cX8_come 7 = .ok (.iconst (-1), 1) := by decide +kernel
theorem dX8_come_8 : decode cX8_come 8 = .ok (.ireturn, 1) := by decide +kernel
theorem dX8_come_9 : decode cX8_come 9 = .ok (.aload_n 0, 1) := by decide +kernel
theorem dX8_come_10 : decode cX8_come 10 = .ok (.getfield 12, 3) := by decide +kernel
theorem dX8_come_13 : decode cX8_come 13 = .ok (.iload_n 1, 1) := by decide +kernel
theorem dX8_come_14 : decode cX8_come 14 = .ok (.invokevirtual 61, 3) := by decide +kernel
theorem dX8_come_17 : decode cX8_come 17 = .ok (.ifCond .ne 6, 3) := by decide +kernel
theorem dX8_come_20 : decode cX8_come 20 = .ok (.bipush (-2), 2) := by decide +kernel
theorem dX8_come_22 : decode cX8_come 22 = .ok (.ireturn, 1) := by decide +kernel
theorem dX8_come_23 : decode cX8_come 23 = .ok (.aload_n 0, 1) := by decide +kernel
theorem dX8_come_24 : decode cX8_come 24 = .ok (.getfield 19, 3) := by decide +kernel
theorem dX8_come_27 : decode cX8_come 27 = .ok (.aload_n 0, 1) := by decide +kernel
theorem dX8_come_28 : decode cX8_come 28 = .ok (.getfield 12, 3) := by decide +kernel
theorem dX8_come_31 : decode cX8_come 31 = .ok (.invokevirtual 64, 3) := by decide +kernel
theorem dX8_come_34 : decode cX8_come 34 = .ok (.aload_n 0, 1) := by decide +kernel
theorem dX8_come_35 : decode cX8_come 35 = .ok (.getfield 12, 3) := by decide +kernel
theorem dX8_come_38 : decode cX8_come 38 = .ok (.iload_n 1, 1) := by decide +kernel
theorem dX8_come_39 : decode cX8_come 39 = .ok (.invokevirtual 68, 3) := by decide +kernel
theorem dX8_come_42 : decode cX8_come 42 = .ok (.aload_n 0, 1) := by decide +kernel
theorem dX8_come_43 : decode cX8_come 43 = .ok (.getfield 12, 3) := by decide +kernel
theorem dX8_come_46 : decode cX8_come 46 = .ok (.getfield 72, 3) := by decide +kernel
theorem dX8_come_49 : decode cX8_come 49 = .ok (.invokestatic 76, 3) := by decide +kernel
theorem dX8_come_52 : decode cX8_come 52 = .ok (.ireturn, 1) := by decide +kernel
theorem dX8_leave_0 : decode cX8_leave 0 = .ok (.iload_n 1, 1) := by decide +kernel
theorem dX8_leave_1 : decode cX8_leave 1 = .ok (.invokestatic 57, 3) := by decide +kernel
theorem dX8_leave_4 : decode cX8_leave 4 = .ok (.ifCond .eq 5, 3) := by decide +kernel
theorem dX8_leave_7 : decode cX8_leave 7 = .ok (.iconst (-1), 1) := by decide +kernel
theorem dX8_leave_8 : decode cX8_leave 8 = .ok (.ireturn, 1) := by decide +kernel
theorem dX8_leave_9 : decode cX8_leave 9 = .ok (.aload_n 0, 1) := by decide +kernel
theorem dX8_leave_10 : decode cX8_leave 10 = .ok (.getfield 12, 3) := by decide +kernel
theorem dX8_leave_13 : decode cX8_leave 13 = .ok (.iload_n 1, 1) := by decide +kernel
theorem dX8_leave_14 : decode cX8_leave 14 = .ok (.invokevirtual 82, 3) := by decide +kernel
theorem dX8_leave_17 : decode cX8_leave 17 = .ok (.ifCond .ne 6, 3) := by decide +kernel
theorem dX8_leave_20 : decode cX8_leave 20 = .ok (.bipush (-2), 2) := by decide +kernel
theorem dX8_leave_22 : decode cX8_leave 22 = .ok (.ireturn, 1) := by decide +kernel
theorem dX8_leave_23 : decode cX8_leave 23 = .ok (.aload_n 0, 1) := by decide +kernel
theorem dX8_leave_24 : decode cX8_leave 24 = .ok (.getfield 19, 3) := by decide +kernel
theorem dX8_leave_27 : decode cX8_leave 27 = .ok (.aload_n 0, 1) := by decide +kernel
theorem dX8_leave_28 : decode cX8_leave 28 = .ok (.getfield 12, 3) := by decide +kernel
theorem dX8_leave_31 : decode cX8_leave 31 = .ok (.invokevirtual 64, 3) := by decide +kernel
theorem dX8_leave_34 : decode cX8_leave 34 = .ok (.aload_n 0, 1) := by decide +kernel
theorem dX8_leave_35 : decode cX8_leave 35 = .ok (.getfield 12, 3) := by decide +kernel
theorem dX8_leave_38 : decode cX8_leave 38 = .ok (.iload_n 1, 1) := by decide +kernel
theorem dX8_leave_39 : decode cX8_leave 39 = .ok (.invokevirtual 85, 3) := by decide +kernel
theorem dX8_leave_42 : decode cX8_leave 42 = .ok (.aload_n 0, 1) := by decide +kernel
theorem dX8_leave_43 : decode cX8_leave 43 = .ok (.getfield 12, 3) := by decide +kernel
theorem dX8_leave_46 : decode cX8_leave 46 = .ok (.getfield 88, 3) := by decide +kernel
theorem dX8_leave_49 : decode cX8_leave 49 = .ok (.invokestatic 76, 3) := by decide +kernel
theorem dX8_leave_52 : decode cX8_leave 52 = .ok (.ireturn, 1) := by decide +kernel
theorem dX8_batch_0 : decode cX8_batch 0 = .ok (.aload_n 0, 1) := by decide +kernel
theorem dX8_batch_1 : decode cX8_batch 1 = .ok (.getfield 12, 3) := by decide +kernel
theorem dX8_batch_4 : decode cX8_batch 4 = .ok (.invokevirtual 91, 3) := by decide +kernel
theorem dX8_batch_7 : decode cX8_batch 7 = .ok (.istore_n 1, 1) := by decide +kernel
theorem dX8_batch_8 : decode cX8_batch 8 = .ok (.iload_n 1, 1) := by decide +kernel
theorem dX8_batch_9 : decode cX8_batch 9 = .ok (.ifCond .eq 5, 3) := by decide +kernel
theorem dX8_batch_12 : decode cX8_batch 12 = .ok (.iload_n 1, 1) := by decide +kernel
theorem dX8_batch_13 : decode cX8_batch 13 = .ok (.ireturn, 1) := by decide +kernel
theorem dX8_batch_14 : decode cX8_batch 14 = .ok (.aload_n 0, 1) := by decide +kernel
theorem dX8_batch_15 : decode cX8_batch 15 = .ok (.getfield 19, 3) := by decide +kernel
theorem dX8_batch_18 : decode cX8_batch 18 = .ok (.aload_n 0, 1) := by decide +kernel
theorem dX8_batch_19 : decode cX8_batch 19 = .ok (.getfield 12, 3) := by decide +kernel
theorem dX8_batch_22 : decode cX8_batch 22 = .ok (.invokevirtual 64, 3) := by decide +kernel
theorem dX8_batch_25 : decode cX8_batch 25 = .ok (.aload_n 0, 1) := by decide +kernel
theorem dX8_batch_26 : decode cX8_batch 26 = .ok (.getfield 12, 3) := by decide +kernel
theorem dX8_batch_29 : decode cX8_batch 29 = .ok (.invokevirtual 95, 3) := by decide +kernel
theorem dX8_batch_32 : decode cX8_batch 32 = .ok (.ireturn, 1) := by decide +kernel
theorem dX8_late_0 : decode cX8_late 0 = .ok (.iload_n 1, 1) := by decide +kernel
theorem dX8_late_1 : decode cX8_late 1 = .ok (.invokestatic 57, 3) := by decide +kernel
theorem dX8_late_4 : decode cX8_late 4 = .ok (.ifCond .ne 12, 3) := by decide +kernel
theorem dX8_late_7 : decode cX8_late 7 = .ok (.iload_n 2, 1) := by decide +kernel
theorem dX8_late_8 : decode cX8_late 8 = .ok (.ifCond .lt 8, 3) := by decide +kernel
theorem dX8_late_11 : decode cX8_late 11 = .ok (.iload_n 2, 1) := by decide +kernel
theorem dX8_late_12 : decode cX8_late 12 = .ok (.iconst 1, 1) := by decide +kernel
theorem dX8_late_13 : decode cX8_late 13 = .ok (.if_icmp .le 5, 3) := by decide +kernel
theorem dX8_late_16 : decode cX8_late 16 = .ok (.iconst (-1), 1) := by decide +kernel
theorem dX8_late_17 : decode cX8_late 17 = .ok (.ireturn, 1) := by decide +kernel
theorem dX8_late_18 : decode cX8_late 18 = .ok (.iload_n 2, 1) := by decide +kernel
theorem dX8_late_19 : decode cX8_late 19 = .ok (.iconst 1, 1) := by decide +kernel
theorem dX8_late_20 : decode cX8_late 20 = .ok (.if_icmp .ne 7, 3) := by decide +kernel
theorem dX8_late_23 : decode cX8_late 23 = .ok (.iconst 1, 1) := by decide +kernel
theorem dX8_late_24 : decode cX8_late 24 = .ok (.goto 4, 3) := by decide +kernel
theorem dX8_late_27 : decode cX8_late 27 = .ok (.iconst 0, 1) := by decide +kernel
theorem dX8_late_28 : decode cX8_late 28 = .ok (.istore_n 3, 1) := by decide +kernel
theorem dX8_late_29 : decode cX8_late 29 = .ok (.iload_n 3, 1) := by decide +kernel
theorem dX8_late_30 : decode cX8_late 30 = .ok (.ifCond .eq 14, 3) := by decide +kernel
theorem dX8_late_33 : decode cX8_late 33 = .ok (.aload_n 0, 1) := by decide +kernel
theorem dX8_late_34 : decode cX8_late 34 = .ok (.getfield 12, 3) := by decide +kernel
theorem dX8_late_37 : decode cX8_late 37 = .ok (.iload_n 1, 1) := by decide +kernel
theorem dX8_late_38 : decode cX8_late 38 = .ok (.invokevirtual 98, 3) := by decide +kernel
theorem dX8_late_41 : decode cX8_late 41 = .ok (.goto 11, 3) := by decide +kernel
theorem dX8_late_44 : decode cX8_late 44 = .ok (.aload_n 0, 1) := by decide +kernel
theorem dX8_late_45 : decode cX8_late 45 = .ok (.getfield 12, 3) := by decide +kernel
theorem dX8_late_48 : decode cX8_late 48 = .ok (.iload_n 1, 1) := by decide +kernel
theorem dX8_late_49 : decode cX8_late 49 = .ok (.invokevirtual 101, 3) := by decide +kernel
theorem dX8_late_52 : decode cX8_late 52 = .ok (.istore 4, 2) := by decide +kernel
theorem dX8_late_54 : decode cX8_late 54 = .ok (.iload 4, 2) := by decide +kernel
theorem dX8_late_56 : decode cX8_late 56 = .ok (.ifCond .ne 6, 3) := by decide +kernel
theorem dX8_late_59 : decode cX8_late 59 = .ok (.bipush (-2), 2) := by decide +kernel
theorem dX8_late_61 : decode cX8_late 61 = .ok (.ireturn, 1) := by decide +kernel
theorem dX8_late_62 : decode cX8_late 62 = .ok (.aload_n 0, 1) := by decide +kernel
theorem dX8_late_63 : decode cX8_late 63 = .ok (.getfield 19, 3) := by decide +kernel
theorem dX8_late_66 : decode cX8_late 66 = .ok (.aload_n 0, 1) := by decide +kernel
theorem dX8_late_67 : decode cX8_late 67 = .ok (.getfield 12, 3) := by decide +kernel
theorem dX8_late_70 : decode cX8_late 70 = .ok (.invokevirtual 64, 3) := by decide +kernel
theorem dX8_late_73 : decode cX8_late 73 = .ok (.iload_n 3, 1) := by decide +kernel
theorem dX8_late_74 : decode cX8_late 74 = .ok (.ifCond .eq 14, 3) := by decide +kernel
theorem dX8_late_77 : decode cX8_late 77 = .ok (.aload_n 0, 1) := by decide +kernel
theorem dX8_late_78 : decode cX8_late 78 = .ok (.getfield 12, 3) := by decide +kernel
theorem dX8_late_81 : decode cX8_late 81 = .ok (.iload_n 1, 1) := by decide +kernel
theorem dX8_late_82 : decode cX8_late 82 = .ok (.invokevirtual 104, 3) := by decide +kernel
theorem dX8_late_85 : decode cX8_late 85 = .ok (.goto 11, 3) := by decide +kernel
theorem dX8_late_88 : decode cX8_late 88 = .ok (.aload_n 0, 1) := by decide +kernel
theorem dX8_late_89 : decode cX8_late 89 = .ok (.getfield 12, 3) := by decide +kernel
theorem dX8_late_92 : decode cX8_late 92 = .ok (.iload_n 1, 1) := by decide +kernel
theorem dX8_late_93 : decode cX8_late 93 = .ok (.invokevirtual 107, 3) := by decide +kernel
theorem dX8_late_96 : decode cX8_late 96 = .ok (.ireturn, 1) := by decide +kernel
theorem dX8_lose_0 : decode cX8_lose 0 = .ok (.iload_n 1, 1) := by decide +kernel
theorem dX8_lose_1 : decode cX8_lose 1 = .ok (.invokestatic 57, 3) := by decide +kernel
theorem dX8_lose_4 : decode cX8_lose 4 = .ok (.ifCond .ne 14, 3) := by decide +kernel
theorem dX8_lose_7 : decode cX8_lose 7 = .ok (.iload_n 2, 1) := by decide +kernel
theorem dX8_lose_8 : decode cX8_lose 8 = .ok (.iconst 1, 1) := by decide +kernel
theorem dX8_lose_9 : decode cX8_lose 9 = .ok (.if_icmp .lt 9, 3) := by decide +kernel
theorem dX8_lose_12 : decode cX8_lose 12 = .ok (.iload_n 2, 1) := by decide +kernel
theorem dX8_lose_13 : decode cX8_lose 13 = .ok (.bipush 40, 2) := by decide +kernel
theorem dX8_lose_15 : decode cX8_lose 15 = .ok (.if_icmp .le 5, 3) := by decide +kernel
theorem dX8_lose_18 : decode cX8_lose 18 = .ok (.iconst (-1), 1) := by decide +kernel
theorem dX8_lose_19 : decode cX8_lose 19 = .ok (.ireturn, 1) := by decide +kernel
theorem dX8_lose_20 : decode cX8_lose 20 = .ok (.aload_n 0, 1) := by decide +kernel
theorem dX8_lose_21 : decode cX8_lose 21 = .ok (.getfield 12, 3) := by decide +kernel
theorem dX8_lose_24 : decode cX8_lose 24 = .ok (.iload_n 1, 1) := by decide +kernel
theorem dX8_lose_25 : decode cX8_lose 25 = .ok (.invokevirtual 101, 3) := by decide +kernel
theorem dX8_lose_28 : decode cX8_lose 28 = .ok (.ifCond .ne 6, 3) := by decide +kernel
theorem dX8_lose_31 : decode cX8_lose 31 = .ok (.bipush (-2), 2) := by decide +kernel
theorem dX8_lose_33 : decode cX8_lose 33 = .ok (.ireturn, 1) := by decide +kernel
theorem dX8_lose_34 : decode cX8_lose 34 = .ok (.aload_n 0, 1) := by decide +kernel
theorem dX8_lose_35 : decode cX8_lose 35 = .ok (.getfield 19, 3) := by decide +kernel
theorem dX8_lose_38 : decode cX8_lose 38 = .ok (.aload_n 0, 1) := by decide +kernel
theorem dX8_lose_39 : decode cX8_lose 39 = .ok (.getfield 12, 3) := by decide +kernel
theorem dX8_lose_42 : decode cX8_lose 42 = .ok (.invokevirtual 64, 3) := by decide +kernel
theorem dX8_lose_45 : decode cX8_lose 45 = .ok (.aload_n 0, 1) := by decide +kernel
theorem dX8_lose_46 : decode cX8_lose 46 = .ok (.getfield 12, 3) := by decide +kernel
theorem dX8_lose_49 : decode cX8_lose 49 = .ok (.iload_n 1, 1) := by decide +kernel
theorem dX8_lose_50 : decode cX8_lose 50 = .ok (.iload_n 2, 1) := by decide +kernel
theorem dX8_lose_51 : decode cX8_lose 51 = .ok (.invokevirtual 110, 3) := by decide +kernel
theorem dX8_lose_54 : decode cX8_lose 54 = .ok (.ireturn, 1) := by decide +kernel
theorem dX8_mend_0 : decode cX8_mend 0 = .ok (.iload_n 1, 1) := by decide +kernel
theorem dX8_mend_1 : decode cX8_mend 1 = .ok (.invokestatic 57, 3) := by decide +kernel
theorem dX8_mend_4 : decode cX8_mend 4 = .ok (.ifCond .eq 5, 3) := by decide +kernel
theorem dX8_mend_7 : decode cX8_mend 7 = .ok (.iconst (-1), 1) := by decide +kernel
theorem dX8_mend_8 : decode cX8_mend 8 = .ok (.ireturn, 1) := by decide +kernel
theorem dX8_mend_9 : decode cX8_mend 9 = .ok (.aload_n 0, 1) := by decide +kernel
theorem dX8_mend_10 : decode cX8_mend 10 = .ok (.getfield 12, 3) := by decide +kernel
theorem dX8_mend_13 : decode cX8_mend 13 = .ok (.iload_n 1, 1) := by decide +kernel
theorem dX8_mend_14 : decode cX8_mend 14 = .ok (.invokevirtual 114, 3) := by decide +kernel
theorem dX8_mend_17 : decode cX8_mend 17 = .ok (.istore_n 2, 1) := by decide +kernel
theorem dX8_mend_18 : decode cX8_mend 18 = .ok (.iload_n 2, 1) := by decide +kernel
theorem dX8_mend_19 : decode cX8_mend 19 = .ok (.ifCond .eq 5, 3) := by decide +kernel
theorem dX8_mend_22 : decode cX8_mend 22 = .ok (.iload_n 2, 1) := by decide +kernel
theorem dX8_mend_23 : decode cX8_mend 23 = .ok (.ireturn, 1) := by decide +kernel
theorem dX8_mend_24 : decode cX8_mend 24 = .ok (.aload_n 0, 1) := by decide +kernel
theorem dX8_mend_25 : decode cX8_mend 25 = .ok (.getfield 19, 3) := by decide +kernel
theorem dX8_mend_28 : decode cX8_mend 28 = .ok (.aload_n 0, 1) := by decide +kernel
theorem dX8_mend_29 : decode cX8_mend 29 = .ok (.getfield 12, 3) := by decide +kernel
theorem dX8_mend_32 : decode cX8_mend 32 = .ok (.invokevirtual 64, 3) := by decide +kernel
theorem dX8_mend_35 : decode cX8_mend 35 = .ok (.aload_n 0, 1) := by decide +kernel
theorem dX8_mend_36 : decode cX8_mend 36 = .ok (.getfield 12, 3) := by decide +kernel
theorem dX8_mend_39 : decode cX8_mend 39 = .ok (.iload_n 1, 1) := by decide +kernel
theorem dX8_mend_40 : decode cX8_mend 40 = .ok (.invokevirtual 117, 3) := by decide +kernel
theorem dX8_mend_43 : decode cX8_mend 43 = .ok (.ireturn, 1) := by decide +kernel
theorem dX8_begin_0 : decode cX8_begin 0 = .ok (.aload_n 0, 1) := by decide +kernel
theorem dX8_begin_1 : decode cX8_begin 1 = .ok (.getfield 12, 3) := by decide +kernel
theorem dX8_begin_4 : decode cX8_begin 4 = .ok (.getfield 120, 3) := by decide +kernel
theorem dX8_begin_7 : decode cX8_begin 7 = .ok (.getfield 124, 3) := by decide +kernel
theorem dX8_begin_10 : decode cX8_begin 10 = .ok (.ifCond .ne 16, 3) := by decide +kernel
theorem dX8_begin_13 : decode cX8_begin 13 = .ok (.aload_n 0, 1) := by decide +kernel
theorem dX8_begin_14 : decode cX8_begin 14 = .ok (.getfield 12, 3) := by decide +kernel
theorem dX8_begin_17 : decode cX8_begin 17 = .ok (.getfield 72, 3) := by decide +kernel
theorem dX8_begin_20 : decode cX8_begin 20 = .ok (.ifCond .ne 6, 3) := by decide +kernel
theorem dX8_begin_23 : decode cX8_begin 23 = .ok (.bipush (-2), 2) := by decide +kernel
theorem dX8_begin_25 : decode cX8_begin 25 = .ok (.ireturn, 1) := by decide +kernel
theorem dX8_begin_26 : decode cX8_begin 26 = .ok (.aload_n 0, 1) := by decide +kernel
theorem dX8_begin_27 : decode cX8_begin 27 = .ok (.getfield 19, 3) := by decide +kernel
theorem dX8_begin_30 : decode cX8_begin 30 = .ok (.aload_n 0, 1) := by decide +kernel
theorem dX8_begin_31 : decode cX8_begin 31 = .ok (.getfield 12, 3) := by decide +kernel
theorem dX8_begin_34 : decode cX8_begin 34 = .ok (.invokevirtual 64, 3) := by decide +kernel
theorem dX8_begin_37 : decode cX8_begin 37 = .ok (.aload_n 0, 1) := by decide +kernel
theorem dX8_begin_38 : decode cX8_begin 38 = .ok (.getfield 12, 3) := by decide +kernel
theorem dX8_begin_41 : decode cX8_begin 41 = .ok (.getfield 120, 3) := by decide +kernel
theorem dX8_begin_44 : decode cX8_begin 44 = .ok (.getfield 124, 3) := by decide +kernel
theorem dX8_begin_47 : decode cX8_begin 47 = .ok (.istore_n 1, 1) := by decide +kernel
theorem dX8_begin_48 : decode cX8_begin 48 = .ok (.aload_n 0, 1) := by decide +kernel
theorem dX8_begin_49 : decode cX8_begin 49 = .ok (.getfield 12, 3) := by decide +kernel
theorem dX8_begin_52 : decode cX8_begin 52 = .ok (.invokevirtual 129, 3) := by decide +kernel
theorem dX8_begin_55 : decode cX8_begin 55 = .ok (.iload_n 1, 1) := by decide +kernel
theorem dX8_begin_56 : decode cX8_begin 56 = .ok (.ireturn, 1) := by decide +kernel
theorem dX8_member_0 : decode cX8_member 0 = .ok (.iload_n 1, 1) := by decide +kernel
theorem dX8_member_1 : decode cX8_member 1 = .ok (.invokestatic 57, 3) := by decide +kernel
theorem dX8_member_4 : decode cX8_member 4 = .ok (.ifCond .eq 5, 3) := by decide +kernel
theorem dX8_member_7 : decode cX8_member 7 = .ok (.iconst (-1), 1) := by decide +kernel
theorem dX8_member_8 : decode cX8_member 8 = .ok (.ireturn, 1) := by decide +kernel
theorem dX8_member_9 : decode cX8_member 9 = .ok (.iload_n 2, 1) := by decide +kernel
theorem dX8_member_10 : decode cX8_member 10 = .ok (.tableswitch 187 0 5 #[38, 70, 82, 121, 133, 161], 38) := by decide +kernel
theorem dX8_member_48 : decode cX8_member 48 = .ok (.aload_n 0, 1) := by decide +kernel
theorem dX8_member_49 : decode cX8_member 49 = .ok (.getfield 12, 3) := by decide +kernel
theorem dX8_member_52 : decode cX8_member 52 = .ok (.getfield 132, 3) := by decide +kernel
theorem dX8_member_55 : decode cX8_member 55 = .ok (.iload_n 1, 1) := by decide +kernel
theorem dX8_member_56 : decode cX8_member 56 = .ok (.invokevirtual 135, 3) := by decide +kernel
theorem dX8_member_59 : decode cX8_member 59 = .ok (.ifCond .eq 18, 3) := by decide +kernel
theorem dX8_member_62 : decode cX8_member 62 = .ok (.aload_n 0, 1) := by decide +kernel
theorem dX8_member_63 : decode cX8_member 63 = .ok (.getfield 12, 3) := by decide +kernel
theorem dX8_member_66 : decode cX8_member 66 = .ok (.getfield 132, 3) := by decide +kernel
theorem dX8_member_69 : decode cX8_member 69 = .ok (.getfield 138, 3) := by decide +kernel
theorem dX8_member_72 : decode cX8_member 72 = .ok (.iload_n 1, 1) := by decide +kernel
theorem dX8_member_73 : decode cX8_member 73 = .ok (.iaload, 1) := by decide +kernel
theorem dX8_member_74 : decode cX8_member 74 = .ok (.goto 5, 3) := by decide +kernel
theorem dX8_member_77 : decode cX8_member 77 = .ok (.bipush (-4), 2) := by decide +kernel
theorem dX8_member_79 : decode cX8_member 79 = .ok (.ireturn, 1) := by decide +kernel
theorem dX8_member_80 : decode cX8_member 80 = .ok (.aload_n 0, 1) := by decide +kernel
theorem dX8_member_81 : decode cX8_member 81 = .ok (.getfield 12, 3) := by decide +kernel
theorem dX8_member_84 : decode cX8_member 84 = .ok (.getfield 120, 3) := by decide +kernel
theorem dX8_member_87 : decode cX8_member 87 = .ok (.iload_n 1, 1) := by decide +kernel
theorem dX8_member_88 : decode cX8_member 88 = .ok (.invokevirtual 142, 3) := by decide +kernel
theorem dX8_member_91 : decode cX8_member 91 = .ok (.ireturn, 1) := by decide +kernel
theorem dX8_member_92 : decode cX8_member 92 = .ok (.aload_n 0, 1) := by decide +kernel
theorem dX8_member_93 : decode cX8_member 93 = .ok (.getfield 12, 3) := by decide +kernel
theorem dX8_member_96 : decode cX8_member 96 = .ok (.invokevirtual 145, 3) := by decide +kernel
theorem dX8_member_99 : decode cX8_member 99 = .ok (.bipush (-4), 2) := by decide +kernel
theorem dX8_member_101 : decode cX8_member 101 = .ok (.if_icmp .ne 8, 3) := by decide +kernel
theorem dX8_member_104 : decode cX8_member 104 = .ok (.bipush (-4), 2) := by decide +kernel
theorem dX8_member_106 : decode cX8_member 106 = .ok (.goto 24, 3) := by decide +kernel
theorem dX8_member_109 : decode cX8_member 109 = .ok (.aload_n 0, 1) := by decide +kernel
theorem dX8_member_110 : decode cX8_member 110 = .ok (.getfield 12, 3) := by decide +kernel
theorem dX8_member_113 : decode cX8_member 113 = .ok (.getfield 120, 3) := by decide +kernel
theorem dX8_member_116 : decode cX8_member 116 = .ok (.aload_n 0, 1) := by decide +kernel
theorem dX8_member_117 : decode cX8_member 117 = .ok (.getfield 12, 3) := by decide +kernel
theorem dX8_member_120 : decode cX8_member 120 = .ok (.invokevirtual 145, 3) := by decide +kernel
theorem dX8_member_123 : decode cX8_member 123 = .ok (.invokevirtual 148, 3) := by decide +kernel
theorem dX8_member_126 : decode cX8_member 126 = .ok (.iload_n 1, 1) := by decide +kernel
theorem dX8_member_127 : decode cX8_member 127 = .ok (.invokestatic 151, 3) := by decide +kernel
theorem dX8_member_130 : decode cX8_member 130 = .ok (.ireturn, 1) := by decide +kernel
theorem dX8_member_131 : decode cX8_member 131 = .ok (.aload_n 0, 1) := by decide +kernel
theorem dX8_member_132 : decode cX8_member 132 = .ok (.getfield 12, 3) := by decide +kernel
theorem dX8_member_135 : decode cX8_member 135 = .ok (.getfield 154, 3) := by decide +kernel
theorem dX8_member_138 : decode cX8_member 138 = .ok (.iload_n 1, 1) := by decide +kernel
theorem dX8_member_139 : decode cX8_member 139 = .ok (.invokestatic 151, 3) := by decide +kernel
theorem dX8_member_142 : decode cX8_member 142 = .ok (.ireturn, 1) := by decide +kernel
theorem dX8_member_143 : decode cX8_member 143 = .ok (.aload_n 0, 1) := by decide +kernel
theorem dX8_member_144 : decode cX8_member 144 = .ok (.getfield 12, 3) := by decide +kernel
theorem dX8_member_147 : decode cX8_member 147 = .ok (.getfield 132, 3) := by decide +kernel
theorem dX8_member_150 : decode cX8_member 150 = .ok (.iload_n 1, 1) := by decide +kernel
theorem dX8_member_151 : decode cX8_member 151 = .ok (.invokevirtual 135, 3) := by decide +kernel
theorem dX8_member_154 : decode cX8_member 154 = .ok (.ifCond .eq 14, 3) := by decide +kernel
theorem dX8_member_157 : decode cX8_member 157 = .ok (.aload_n 0, 1) := by decide +kernel
theorem dX8_member_158 : decode cX8_member 158 = .ok (.getfield 12, 3) := by decide +kernel
theorem dX8_member_161 : decode cX8_member 161 = .ok (.iload_n 1, 1) := by decide +kernel
theorem dX8_member_162 : decode cX8_member 162 = .ok (.invokevirtual 157, 3) := by decide +kernel
theorem dX8_member_165 : decode cX8_member 165 = .ok (.goto 5, 3) := by decide +kernel
theorem dX8_member_168 : decode cX8_member 168 = .ok (.bipush (-4), 2) := by decide +kernel
theorem dX8_member_170 : decode cX8_member 170 = .ok (.ireturn, 1) := by decide +kernel
theorem dX8_member_171 : decode cX8_member 171 = .ok (.aload_n 0, 1) := by decide +kernel
theorem dX8_member_172 : decode cX8_member 172 = .ok (.getfield 12, 3) := by decide +kernel
theorem dX8_member_175 : decode cX8_member 175 = .ok (.getfield 72, 3) := by decide +kernel
theorem dX8_member_178 : decode cX8_member 178 = .ok (.iload_n 1, 1) := by decide +kernel
theorem dX8_member_179 : decode cX8_member 179 = .ok (.invokestatic 151, 3) := by decide +kernel
theorem dX8_member_182 : decode cX8_member 182 = .ok (.iconst 2, 1) := by decide +kernel
theorem dX8_member_183 : decode cX8_member 183 = .ok (.aload_n 0, 1) := by decide +kernel
theorem dX8_member_184 : decode cX8_member 184 = .ok (.getfield 12, 3) := by decide +kernel
theorem dX8_member_187 : decode cX8_member 187 = .ok (.getfield 88, 3) := by decide +kernel
theorem dX8_member_190 : decode cX8_member 190 = .ok (.iload_n 1, 1) := by decide +kernel
theorem dX8_member_191 : decode cX8_member 191 = .ok (.invokestatic 151, 3) := by decide +kernel
theorem dX8_member_194 : decode cX8_member 194 = .ok (.imul, 1) := by decide +kernel
theorem dX8_member_195 : decode cX8_member 195 = .ok (.iadd, 1) := by decide +kernel
theorem dX8_member_196 : decode cX8_member 196 = .ok (.ireturn, 1) := by decide +kernel
theorem dX8_member_197 : decode cX8_member 197 = .ok (.iconst (-1), 1) := by decide +kernel
theorem dX8_member_198 : decode cX8_member 198 = .ok (.ireturn, 1) := by decide +kernel
theorem dX8_node_0 : decode cX8_node 0 = .ok (.iload_n 1, 1) := by decide +kernel
theorem dX8_node_1 : decode cX8_node 1 = .ok (.iconst 1, 1) := by decide +kernel
theorem dX8_node_2 : decode cX8_node 2 = .ok (.if_icmp .lt 9, 3) := by decide +kernel
theorem dX8_node_5 : decode cX8_node 5 = .ok (.iload_n 1, 1) := by decide +kernel
theorem dX8_node_6 : decode cX8_node 6 = .ok (.bipush 32, 2) := by decide +kernel
theorem dX8_node_8 : decode cX8_node 8 = .ok (.if_icmp .lt 5, 3) := by decide +kernel
theorem dX8_node_11 : decode cX8_node 11 = .ok (.iconst (-1), 1) := by decide +kernel
theorem dX8_node_12 : decode cX8_node 12 = .ok (.ireturn, 1) := by decide +kernel
theorem dX8_node_13 : decode cX8_node 13 = .ok (.aload_n 0, 1) := by decide +kernel
theorem dX8_node_14 : decode cX8_node 14 = .ok (.getfield 12, 3) := by decide +kernel
theorem dX8_node_17 : decode cX8_node 17 = .ok (.getfield 120, 3) := by decide +kernel
theorem dX8_node_20 : decode cX8_node 20 = .ok (.getfield 160, 3) := by decide +kernel
theorem dX8_node_23 : decode cX8_node 23 = .ok (.iload_n 1, 1) := by decide +kernel
theorem dX8_node_24 : decode cX8_node 24 = .ok (.iaload, 1) := by decide +kernel
theorem dX8_node_25 : decode cX8_node 25 = .ok (.istore_n 3, 1) := by decide +kernel
theorem dX8_node_26 : decode cX8_node 26 = .ok (.iload_n 2, 1) := by decide +kernel
theorem dX8_node_27 : decode cX8_node 27 = .ok (.tableswitch 63 0 2 #[25, 27, 40], 25) := by decide +kernel
theorem dX8_node_52 : decode cX8_node 52 = .ok (.iload_n 3, 1) := by decide +kernel
theorem dX8_node_53 : decode cX8_node 53 = .ok (.ireturn, 1) := by decide +kernel
theorem dX8_node_54 : decode cX8_node 54 = .ok (.aload_n 0, 1) := by decide +kernel
theorem dX8_node_55 : decode cX8_node 55 = .ok (.getfield 12, 3) := by decide +kernel
theorem dX8_node_58 : decode cX8_node 58 = .ok (.getfield 132, 3) := by decide +kernel
theorem dX8_node_61 : decode cX8_node 61 = .ok (.getfield 163, 3) := by decide +kernel
theorem dX8_node_64 : decode cX8_node 64 = .ok (.iload_n 1, 1) := by decide +kernel
theorem dX8_node_65 : decode cX8_node 65 = .ok (.iaload, 1) := by decide +kernel
theorem dX8_node_66 : decode cX8_node 66 = .ok (.ireturn, 1) := by decide +kernel
theorem dX8_node_67 : decode cX8_node 67 = .ok (.iload_n 3, 1) := by decide +kernel
theorem dX8_node_68 : decode cX8_node 68 = .ok (.bipush (-4), 2) := by decide +kernel
theorem dX8_node_70 : decode cX8_node 70 = .ok (.if_icmp .ne 8, 3) := by decide +kernel
theorem dX8_node_73 : decode cX8_node 73 = .ok (.bipush (-4), 2) := by decide +kernel
theorem dX8_node_75 : decode cX8_node 75 = .ok (.goto 14, 3) := by decide +kernel
theorem dX8_node_78 : decode cX8_node 78 = .ok (.aload_n 0, 1) := by decide +kernel
theorem dX8_node_79 : decode cX8_node 79 = .ok (.getfield 12, 3) := by decide +kernel
theorem dX8_node_82 : decode cX8_node 82 = .ok (.getfield 120, 3) := by decide +kernel
theorem dX8_node_85 : decode cX8_node 85 = .ok (.iload_n 3, 1) := by decide +kernel
theorem dX8_node_86 : decode cX8_node 86 = .ok (.invokevirtual 148, 3) := by decide +kernel
theorem dX8_node_89 : decode cX8_node 89 = .ok (.ireturn, 1) := by decide +kernel
theorem dX8_node_90 : decode cX8_node 90 = .ok (.iconst (-1), 1) := by decide +kernel
theorem dX8_node_91 : decode cX8_node 91 = .ok (.ireturn, 1) := by decide +kernel
theorem dX8_key_0 : decode cX8_key 0 = .ok (.aload_n 0, 1) := by decide +kernel
theorem dX8_key_1 : decode cX8_key 1 = .ok (.getfield 12, 3) := by decide +kernel
theorem dX8_key_4 : decode cX8_key 4 = .ok (.getfield 120, 3) := by decide +kernel
theorem dX8_key_7 : decode cX8_key 7 = .ok (.iload_n 1, 1) := by decide +kernel
theorem dX8_key_8 : decode cX8_key 8 = .ok (.invokevirtual 166, 3) := by decide +kernel
theorem dX8_key_11 : decode cX8_key 11 = .ok (.ifCond .ne 5, 3) := by decide +kernel
theorem dX8_key_14 : decode cX8_key 14 = .ok (.iconst (-1), 1) := by decide +kernel
theorem dX8_key_15 : decode cX8_key 15 = .ok (.ireturn, 1) := by decide +kernel
theorem dX8_key_16 : decode cX8_key 16 = .ok (.aload_n 0, 1) := by decide +kernel
theorem dX8_key_17 : decode cX8_key 17 = .ok (.getfield 12, 3) := by decide +kernel
theorem dX8_key_20 : decode cX8_key 20 = .ok (.getfield 120, 3) := by decide +kernel
theorem dX8_key_23 : decode cX8_key 23 = .ok (.getfield 169, 3) := by decide +kernel
theorem dX8_key_26 : decode cX8_key 26 = .ok (.iload_n 1, 1) := by decide +kernel
theorem dX8_key_27 : decode cX8_key 27 = .ok (.iaload, 1) := by decide +kernel
theorem dX8_key_28 : decode cX8_key 28 = .ok (.istore_n 3, 1) := by decide +kernel
theorem dX8_key_29 : decode cX8_key 29 = .ok (.iload_n 2, 1) := by decide +kernel
theorem dX8_key_30 : decode cX8_key 30 = .ok (.tableswitch 80 0 3 #[30, 32, 45, 67], 30) := by decide +kernel
theorem dX8_key_60 : decode cX8_key 60 = .ok (.iload_n 3, 1) := by decide +kernel
theorem dX8_key_61 : decode cX8_key 61 = .ok (.ireturn, 1) := by decide +kernel
theorem dX8_key_62 : decode cX8_key 62 = .ok (.aload_n 0, 1) := by decide +kernel
theorem dX8_key_63 : decode cX8_key 63 = .ok (.getfield 12, 3) := by decide +kernel
theorem dX8_key_66 : decode cX8_key 66 = .ok (.getfield 120, 3) := by decide +kernel
theorem dX8_key_69 : decode cX8_key 69 = .ok (.getfield 172, 3) := by decide +kernel
theorem dX8_key_72 : decode cX8_key 72 = .ok (.iload_n 1, 1) := by decide +kernel
theorem dX8_key_73 : decode cX8_key 73 = .ok (.iaload, 1) := by decide +kernel
theorem dX8_key_74 : decode cX8_key 74 = .ok (.ireturn, 1) := by decide +kernel
theorem dX8_key_75 : decode cX8_key 75 = .ok (.aload_n 0, 1) := by decide +kernel
theorem dX8_key_76 : decode cX8_key 76 = .ok (.getfield 12, 3) := by decide +kernel
theorem dX8_key_79 : decode cX8_key 79 = .ok (.getfield 120, 3) := by decide +kernel
theorem dX8_key_82 : decode cX8_key 82 = .ok (.getfield 160, 3) := by decide +kernel
theorem dX8_key_85 : decode cX8_key 85 = .ok (.iload_n 3, 1) := by decide +kernel
theorem dX8_key_86 : decode cX8_key 86 = .ok (.iaload, 1) := by decide +kernel
theorem dX8_key_87 : decode cX8_key 87 = .ok (.iload_n 1, 1) := by decide +kernel
theorem dX8_key_88 : decode cX8_key 88 = .ok (.if_icmp .ne 7, 3) := by decide +kernel
theorem dX8_key_91 : decode cX8_key 91 = .ok (.iconst 1, 1) := by decide +kernel
theorem dX8_key_92 : decode cX8_key 92 = .ok (.goto 4, 3) := by decide +kernel
theorem dX8_key_95 : decode cX8_key 95 = .ok (.iconst 0, 1) := by decide +kernel
theorem dX8_key_96 : decode cX8_key 96 = .ok (.ireturn, 1) := by decide +kernel
theorem dX8_key_97 : decode cX8_key 97 = .ok (.aload_n 0, 1) := by decide +kernel
theorem dX8_key_98 : decode cX8_key 98 = .ok (.getfield 12, 3) := by decide +kernel
theorem dX8_key_101 : decode cX8_key 101 = .ok (.getfield 120, 3) := by decide +kernel
theorem dX8_key_104 : decode cX8_key 104 = .ok (.getfield 175, 3) := by decide +kernel
theorem dX8_key_107 : decode cX8_key 107 = .ok (.iload_n 1, 1) := by decide +kernel
theorem dX8_key_108 : decode cX8_key 108 = .ok (.iaload, 1) := by decide +kernel
theorem dX8_key_109 : decode cX8_key 109 = .ok (.ireturn, 1) := by decide +kernel
theorem dX8_key_110 : decode cX8_key 110 = .ok (.iconst (-1), 1) := by decide +kernel
theorem dX8_key_111 : decode cX8_key 111 = .ok (.ireturn, 1) := by decide +kernel
theorem dX8_letter_0 : decode cX8_letter 0 = .ok (.aload_n 0, 1) := by decide +kernel
theorem dX8_letter_1 : decode cX8_letter 1 = .ok (.getfield 12, 3) := by decide +kernel
theorem dX8_letter_4 : decode cX8_letter 4 = .ok (.getfield 178, 3) := by decide +kernel
theorem dX8_letter_7 : decode cX8_letter 7 = .ok (.iload_n 1, 1) := by decide +kernel
theorem dX8_letter_8 : decode cX8_letter 8 = .ok (.invokevirtual 182, 3) := by decide +kernel
theorem dX8_letter_11 : decode cX8_letter 11 = .ok (.ifCond .ne 5, 3) := by decide +kernel
theorem dX8_letter_14 : decode cX8_letter 14 = .ok (.iconst (-1), 1) := by decide +kernel
theorem dX8_letter_15 : decode cX8_letter 15 = .ok (.ireturn, 1) := by decide +kernel
theorem dX8_letter_16 : decode cX8_letter 16 = .ok (.iload_n 2, 1) := by decide +kernel
theorem dX8_letter_17 : decode cX8_letter 17 = .ok (.tableswitch 66 0 2 #[27, 40, 53], 27) := by decide +kernel
theorem dX8_letter_44 : decode cX8_letter 44 = .ok (.aload_n 0, 1) := by decide +kernel
theorem dX8_letter_45 : decode cX8_letter 45 = .ok (.getfield 12, 3) := by decide +kernel
theorem dX8_letter_48 : decode cX8_letter 48 = .ok (.getfield 178, 3) := by decide +kernel
theorem dX8_letter_51 : decode cX8_letter 51 = .ok (.getfield 185, 3) := by decide +kernel
theorem dX8_letter_54 : decode cX8_letter 54 = .ok (.iload_n 1, 1) := by decide +kernel
theorem dX8_letter_55 : decode cX8_letter 55 = .ok (.iaload, 1) := by decide +kernel
theorem dX8_letter_56 : decode cX8_letter 56 = .ok (.ireturn, 1) := by decide +kernel
theorem dX8_letter_57 : decode cX8_letter 57 = .ok (.aload_n 0, 1) := by decide +kernel
theorem dX8_letter_58 : decode cX8_letter 58 = .ok (.getfield 12, 3) := by decide +kernel
theorem dX8_letter_61 : decode cX8_letter 61 = .ok (.getfield 178, 3) := by decide +kernel
theorem dX8_letter_64 : decode cX8_letter 64 = .ok (.getfield 188, 3) := by decide +kernel
theorem dX8_letter_67 : decode cX8_letter 67 = .ok (.iload_n 1, 1) := by decide +kernel
theorem dX8_letter_68 : decode cX8_letter 68 = .ok (.iaload, 1) := by decide +kernel
theorem dX8_letter_69 : decode cX8_letter 69 = .ok (.ireturn, 1) := by decide +kernel
theorem dX8_letter_70 : decode cX8_letter 70 = .ok (.aload_n 0, 1) := by decide +kernel
theorem dX8_letter_71 : decode cX8_letter 71 = .ok (.getfield 12, 3) := by decide +kernel
theorem dX8_letter_74 : decode cX8_letter 74 = .ok (.getfield 178, 3) := by decide +kernel
theorem dX8_letter_77 : decode cX8_letter 77 = .ok (.getfield 191, 3) := by decide +kernel
theorem dX8_letter_80 : decode cX8_letter 80 = .ok (.iload_n 1, 1) := by decide +kernel
theorem dX8_letter_81 : decode cX8_letter 81 = .ok (.iaload, 1) := by decide +kernel
theorem dX8_letter_82 : decode cX8_letter 82 = .ok (.ireturn, 1) := by decide +kernel
theorem dX8_letter_83 : decode cX8_letter 83 = .ok (.iconst (-1), 1) := by decide +kernel
theorem dX8_letter_84 : decode cX8_letter 84 = .ok (.ireturn, 1) := by decide +kernel
theorem dX8_count_0 : decode cX8_count 0 = .ok (.iload_n 1, 1) := by decide +kernel
theorem dX8_count_1 : decode cX8_count 1 = .ok (.tableswitch 155 0 8 #[51, 62, 70, 78, 86, 97, 108, 116, 147], 51) := by decide +kernel
theorem dX8_count_52 : decode cX8_count 52 = .ok (.aload_n 0, 1) := by decide +kernel
theorem dX8_count_53 : decode cX8_count 53 = .ok (.getfield 12, 3) := by decide +kernel
theorem dX8_count_56 : decode cX8_count 56 = .ok (.getfield 132, 3) := by decide +kernel
theorem dX8_count_59 : decode cX8_count 59 = .ok (.invokevirtual 192, 3) := by decide +kernel
theorem dX8_count_62 : decode cX8_count 62 = .ok (.ireturn, 1) := by decide +kernel
theorem dX8_count_63 : decode cX8_count 63 = .ok (.aload_n 0, 1) := by decide +kernel
theorem dX8_count_64 : decode cX8_count 64 = .ok (.getfield 12, 3) := by decide +kernel
theorem dX8_count_67 : decode cX8_count 67 = .ok (.getfield 72, 3) := by decide +kernel
theorem dX8_count_70 : decode cX8_count 70 = .ok (.ireturn, 1) := by decide +kernel
theorem dX8_count_71 : decode cX8_count 71 = .ok (.aload_n 0, 1) := by decide +kernel
theorem dX8_count_72 : decode cX8_count 72 = .ok (.getfield 12, 3) := by decide +kernel
theorem dX8_count_75 : decode cX8_count 75 = .ok (.getfield 88, 3) := by decide +kernel
theorem dX8_count_78 : decode cX8_count 78 = .ok (.ireturn, 1) := by decide +kernel
theorem dX8_count_79 : decode cX8_count 79 = .ok (.aload_n 0, 1) := by decide +kernel
theorem dX8_count_80 : decode cX8_count 80 = .ok (.getfield 12, 3) := by decide +kernel
theorem dX8_count_83 : decode cX8_count 83 = .ok (.getfield 154, 3) := by decide +kernel
theorem dX8_count_86 : decode cX8_count 86 = .ok (.ireturn, 1) := by decide +kernel
theorem dX8_count_87 : decode cX8_count 87 = .ok (.aload_n 0, 1) := by decide +kernel
theorem dX8_count_88 : decode cX8_count 88 = .ok (.getfield 12, 3) := by decide +kernel
theorem dX8_count_91 : decode cX8_count 91 = .ok (.getfield 120, 3) := by decide +kernel
theorem dX8_count_94 : decode cX8_count 94 = .ok (.getfield 124, 3) := by decide +kernel
theorem dX8_count_97 : decode cX8_count 97 = .ok (.ireturn, 1) := by decide +kernel
theorem dX8_count_98 : decode cX8_count 98 = .ok (.aload_n 0, 1) := by decide +kernel
theorem dX8_count_99 : decode cX8_count 99 = .ok (.getfield 12, 3) := by decide +kernel
theorem dX8_count_102 : decode cX8_count 102 = .ok (.getfield 178, 3) := by decide +kernel
theorem dX8_count_105 : decode cX8_count 105 = .ok (.getfield 195, 3) := by decide +kernel
theorem dX8_count_108 : decode cX8_count 108 = .ok (.ireturn, 1) := by decide +kernel
theorem dX8_count_109 : decode cX8_count 109 = .ok (.aload_n 0, 1) := by decide +kernel
theorem dX8_count_110 : decode cX8_count 110 = .ok (.getfield 12, 3) := by decide +kernel
theorem dX8_count_113 : decode cX8_count 113 = .ok (.getfield 198, 3) := by decide +kernel
theorem dX8_count_116 : decode cX8_count 116 = .ok (.ireturn, 1) := by decide +kernel
theorem dX8_count_117 : decode cX8_count 117 = .ok (.aload_n 0, 1) := by decide +kernel
theorem dX8_count_118 : decode cX8_count 118 = .ok (.getfield 12, 3) := by decide +kernel
theorem dX8_count_121 : decode cX8_count 121 = .ok (.getfield 132, 3) := by decide +kernel
theorem dX8_count_124 : decode cX8_count 124 = .ok (.invokevirtual 192, 3) := by decide +kernel
theorem dX8_count_127 : decode cX8_count 127 = .ok (.aload_n 0, 1) := by decide +kernel
theorem dX8_count_128 : decode cX8_count 128 = .ok (.getfield 12, 3) := by decide +kernel
theorem dX8_count_131 : decode cX8_count 131 = .ok (.getfield 120, 3) := by decide +kernel
theorem dX8_count_134 : decode cX8_count 134 = .ok (.aload_n 0, 1) := by decide +kernel
theorem dX8_count_135 : decode cX8_count 135 = .ok (.getfield 12, 3) := by decide +kernel
theorem dX8_count_138 : decode cX8_count 138 = .ok (.invokevirtual 145, 3) := by decide +kernel
theorem dX8_count_141 : decode cX8_count 141 = .ok (.invokevirtual 148, 3) := by decide +kernel
theorem dX8_count_144 : decode cX8_count 144 = .ok (.iconst (-1), 1) := by decide +kernel
theorem dX8_count_145 : decode cX8_count 145 = .ok (.ixor, 1) := by decide +kernel
theorem dX8_count_146 : decode cX8_count 146 = .ok (.iand, 1) := by decide +kernel
theorem dX8_count_147 : decode cX8_count 147 = .ok (.ireturn, 1) := by decide +kernel
theorem dX8_count_148 : decode cX8_count 148 = .ok (.aload_n 0, 1) := by decide +kernel
theorem dX8_count_149 : decode cX8_count 149 = .ok (.getfield 19, 3) := by decide +kernel
theorem dX8_count_152 : decode cX8_count 152 = .ok (.getfield 200, 3) := by decide +kernel
theorem dX8_count_155 : decode cX8_count 155 = .ok (.ireturn, 1) := by decide +kernel
theorem dX8_count_156 : decode cX8_count 156 = .ok (.iconst (-1), 1) := by decide +kernel
theorem dX8_count_157 : decode cX8_count 157 = .ok (.ireturn, 1) := by decide +kernel
theorem dX8_why_0 : decode cX8_why 0 = .ok (.iload_n 1, 1) := by decide +kernel
theorem dX8_why_1 : decode cX8_why 1 = .ok (.invokestatic 57, 3) := by decide +kernel
theorem dX8_why_4 : decode cX8_why 4 = .ok (.ifCond .ne 17, 3) := by decide +kernel
theorem dX8_why_7 : decode cX8_why 7 = .ok (.aload_n 0, 1) := by decide +kernel
theorem dX8_why_8 : decode cX8_why 8 = .ok (.getfield 12, 3) := by decide +kernel
theorem dX8_why_11 : decode cX8_why 11 = .ok (.getfield 178, 3) := by decide +kernel
theorem dX8_why_14 : decode cX8_why 14 = .ok (.iload_n 2, 1) := by decide +kernel
theorem dX8_why_15 : decode cX8_why 15 = .ok (.invokevirtual 182, 3) := by decide +kernel
theorem dX8_why_18 : decode cX8_why 18 = .ok (.ifCond .ne 5, 3) := by decide +kernel
theorem dX8_why_21 : decode cX8_why 21 = .ok (.iconst (-1), 1) := by decide +kernel
theorem dX8_why_22 : decode cX8_why 22 = .ok (.ireturn, 1) := by decide +kernel
theorem dX8_why_23 : decode cX8_why 23 = .ok (.aload_n 0, 1) := by decide +kernel
theorem dX8_why_24 : decode cX8_why 24 = .ok (.getfield 12, 3) := by decide +kernel
theorem dX8_why_27 : decode cX8_why 27 = .ok (.iload_n 1, 1) := by decide +kernel
theorem dX8_why_28 : decode cX8_why 28 = .ok (.aload_n 0, 1) := by decide +kernel
theorem dX8_why_29 : decode cX8_why 29 = .ok (.getfield 12, 3) := by decide +kernel
theorem dX8_why_32 : decode cX8_why 32 = .ok (.getfield 178, 3) := by decide +kernel
theorem dX8_why_35 : decode cX8_why 35 = .ok (.getfield 188, 3) := by decide +kernel
theorem dX8_why_38 : decode cX8_why 38 = .ok (.iload_n 2, 1) := by decide +kernel
theorem dX8_why_39 : decode cX8_why 39 = .ok (.iaload, 1) := by decide +kernel
theorem dX8_why_40 : decode cX8_why 40 = .ok (.invokevirtual 202, 3) := by decide +kernel
theorem dX8_why_43 : decode cX8_why 43 = .ok (.ireturn, 1) := by decide +kernel
theorem dX8_opens_0 : decode cX8_opens 0 = .ok (.iload_n 1, 1) := by decide +kernel
theorem dX8_opens_1 : decode cX8_opens 1 = .ok (.ifCond .lt 23, 3) := by decide +kernel
theorem dX8_opens_4 : decode cX8_opens 4 = .ok (.iload_n 1, 1) := by decide +kernel
theorem dX8_opens_5 : decode cX8_opens 5 = .ok (.ldc 205, 2) := by decide +kernel
theorem dX8_opens_7 : decode cX8_opens 7 = .ok (.if_icmp .ge 17, 3) := by decide +kernel
theorem dX8_opens_10 : decode cX8_opens 10 = .ok (.aload_n 0, 1) := by decide +kernel
theorem dX8_opens_11 : decode cX8_opens 11 = .ok (.getfield 12, 3) := by decide +kernel
theorem dX8_opens_14 : decode cX8_opens 14 = .ok (.getfield 120, 3) := by decide +kernel
theorem dX8_opens_17 : decode cX8_opens 17 = .ok (.iload_n 2, 1) := by decide +kernel
theorem dX8_opens_18 : decode cX8_opens 18 = .ok (.invokevirtual 166, 3) := by decide +kernel
theorem dX8_opens_21 : decode cX8_opens 21 = .ok (.ifCond .ne 5, 3) := by decide +kernel
theorem dX8_opens_24 : decode cX8_opens 24 = .ok (.iconst (-1), 1) := by decide +kernel
theorem dX8_opens_25 : decode cX8_opens 25 = .ok (.ireturn, 1) := by decide +kernel
theorem dX8_opens_26 : decode cX8_opens 26 = .ok (.aload_n 0, 1) := by decide +kernel
theorem dX8_opens_27 : decode cX8_opens 27 = .ok (.getfield 52, 3) := by decide +kernel
theorem dX8_opens_30 : decode cX8_opens 30 = .ok (.aload_n 0, 1) := by decide +kernel
theorem dX8_opens_31 : decode cX8_opens 31 = .ok (.getfield 12, 3) := by decide +kernel
theorem dX8_opens_34 : decode cX8_opens 34 = .ok (.getfield 120, 3) := by decide +kernel
theorem dX8_opens_37 : decode cX8_opens 37 = .ok (.iload_n 1, 1) := by decide +kernel
theorem dX8_opens_38 : decode cX8_opens 38 = .ok (.invokevirtual 206, 3) := by decide +kernel
theorem dX8_opens_41 : decode cX8_opens 41 = .ok (.aload_n 0, 1) := by decide +kernel
theorem dX8_opens_42 : decode cX8_opens 42 = .ok (.getfield 52, 3) := by decide +kernel
theorem dX8_opens_45 : decode cX8_opens 45 = .ok (.aload_n 0, 1) := by decide +kernel
theorem dX8_opens_46 : decode cX8_opens 46 = .ok (.getfield 12, 3) := by decide +kernel
theorem dX8_opens_49 : decode cX8_opens 49 = .ok (.getfield 178, 3) := by decide +kernel
theorem dX8_opens_52 : decode cX8_opens 52 = .ok (.invokevirtual 210, 3) := by decide +kernel
theorem dX8_opens_55 : decode cX8_opens 55 = .ok (.aload_n 0, 1) := by decide +kernel
theorem dX8_opens_56 : decode cX8_opens 56 = .ok (.getfield 52, 3) := by decide +kernel
theorem dX8_opens_59 : decode cX8_opens 59 = .ok (.iload_n 2, 1) := by decide +kernel
theorem dX8_opens_60 : decode cX8_opens 60 = .ok (.invokevirtual 214, 3) := by decide +kernel
theorem dX8_opens_63 : decode cX8_opens 63 = .ok (.ifCond .eq 7, 3) := by decide +kernel
theorem dX8_opens_66 : decode cX8_opens 66 = .ok (.iconst 1, 1) := by decide +kernel
theorem dX8_opens_67 : decode cX8_opens 67 = .ok (.goto 4, 3) := by decide +kernel
theorem dX8_opens_70 : decode cX8_opens 70 = .ok (.iconst 0, 1) := by decide +kernel
theorem dX8_opens_71 : decode cX8_opens 71 = .ok (.ireturn, 1) := by decide +kernel
theorem dX8_due_0 : decode cX8_due 0 = .ok (.iload_n 1, 1) := by decide +kernel
theorem dX8_due_1 : decode cX8_due 1 = .ok (.ifCond .lt 8, 3) := by decide +kernel
theorem dX8_due_4 : decode cX8_due 4 = .ok (.iload_n 1, 1) := by decide +kernel
theorem dX8_due_5 : decode cX8_due 5 = .ok (.iconst 1, 1) := by decide +kernel
theorem dX8_due_6 : decode cX8_due 6 = .ok (.if_icmp .le 5, 3) := by decide +kernel
end
section
theorem dX8_due_9 : decode cX8_due 9 = .ok (.iconst (-1), 1) := by decide +kernel
theorem dX8_due_10 : decode cX8_due 10 = .ok (.ireturn, 1) := by decide +kernel
theorem dX8_due_11 : decode cX8_due 11 = .ok (.aload_n 0, 1) := by decide +kernel
theorem dX8_due_12 : decode cX8_due 12 = .ok (.getfield 45, 3) := by decide +kernel
theorem dX8_due_15 : decode cX8_due 15 = .ok (.aload_n 0, 1) := by decide +kernel
theorem dX8_due_16 : decode cX8_due 16 = .ok (.getfield 12, 3) := by decide +kernel
theorem dX8_due_19 : decode cX8_due 19 = .ok (.getfield 132, 3) := by decide +kernel
theorem dX8_due_22 : decode cX8_due 22 = .ok (.invokevirtual 217, 3) := by decide +kernel
theorem dX8_due_25 : decode cX8_due 25 = .ok (.iload_n 1, 1) := by decide +kernel
theorem dX8_due_26 : decode cX8_due 26 = .ok (.ifCond .ne 32, 3) := by decide +kernel
theorem dX8_due_29 : decode cX8_due 29 = .ok (.aload_n 0, 1) := by decide +kernel
theorem dX8_due_30 : decode cX8_due 30 = .ok (.getfield 45, 3) := by decide +kernel
theorem dX8_due_33 : decode cX8_due 33 = .ok (.aload_n 0, 1) := by decide +kernel
theorem dX8_due_34 : decode cX8_due 34 = .ok (.getfield 45, 3) := by decide +kernel
theorem dX8_due_37 : decode cX8_due 37 = .ok (.aload_n 0, 1) := by decide +kernel
theorem dX8_due_38 : decode cX8_due 38 = .ok (.getfield 12, 3) := by decide +kernel
theorem dX8_due_41 : decode cX8_due 41 = .ok (.getfield 88, 3) := by decide +kernel
theorem dX8_due_44 : decode cX8_due 44 = .ok (.aload_n 0, 1) := by decide +kernel
theorem dX8_due_45 : decode cX8_due 45 = .ok (.getfield 12, 3) := by decide +kernel
theorem dX8_due_48 : decode cX8_due 48 = .ok (.getfield 72, 3) := by decide +kernel
theorem dX8_due_51 : decode cX8_due 51 = .ok (.invokevirtual 220, 3) := by decide +kernel
theorem dX8_due_54 : decode cX8_due 54 = .ok (.invokevirtual 223, 3) := by decide +kernel
theorem dX8_due_57 : decode cX8_due 57 = .ok (.ireturn, 1) := by decide +kernel
theorem dX8_due_58 : decode cX8_due 58 = .ok (.aload_n 0, 1) := by decide +kernel
theorem dX8_due_59 : decode cX8_due 59 = .ok (.invokevirtual 226, 3) := by decide +kernel
theorem dX8_due_62 : decode cX8_due 62 = .ok (.ireturn, 1) := by decide +kernel
theorem dX8_luck_0 : decode cX8_luck 0 = .ok (.iload_n 1, 1) := by decide +kernel
theorem dX8_luck_1 : decode cX8_luck 1 = .ok (.invokestatic 57, 3) := by decide +kernel
theorem dX8_luck_4 : decode cX8_luck 4 = .ok (.ifCond .ne 22, 3) := by decide +kernel
theorem dX8_luck_7 : decode cX8_luck 7 = .ok (.iload_n 2, 1) := by decide +kernel
theorem dX8_luck_8 : decode cX8_luck 8 = .ok (.ifCond .lt 18, 3) := by decide +kernel
theorem dX8_luck_11 : decode cX8_luck 11 = .ok (.iload_n 2, 1) := by decide +kernel
theorem dX8_luck_12 : decode cX8_luck 12 = .ok (.bipush 10, 2) := by decide +kernel
theorem dX8_luck_14 : decode cX8_luck 14 = .ok (.if_icmp .gt 12, 3) := by decide +kernel
theorem dX8_luck_17 : decode cX8_luck 17 = .ok (.iload_n 3, 1) := by decide +kernel
theorem dX8_luck_18 : decode cX8_luck 18 = .ok (.ifCond .lt 8, 3) := by decide +kernel
theorem dX8_luck_21 : decode cX8_luck 21 = .ok (.iload_n 3, 1) := by decide +kernel
theorem dX8_luck_22 : decode cX8_luck 22 = .ok (.iconst 1, 1) := by decide +kernel
theorem dX8_luck_23 : decode cX8_luck 23 = .ok (.if_icmp .le 5, 3) := by decide +kernel
theorem dX8_luck_26 : decode cX8_luck 26 = .ok (.iconst (-1), 1) := by decide +kernel
theorem dX8_luck_27 : decode cX8_luck 27 = .ok (.ireturn, 1) := by decide +kernel
theorem dX8_luck_28 : decode cX8_luck 28 = .ok (.aload_n 0, 1) := by decide +kernel
theorem dX8_luck_29 : decode cX8_luck 29 = .ok (.getfield 12, 3) := by decide +kernel
theorem dX8_luck_32 : decode cX8_luck 32 = .ok (.getfield 132, 3) := by decide +kernel
theorem dX8_luck_35 : decode cX8_luck 35 = .ok (.iload_n 1, 1) := by decide +kernel
theorem dX8_luck_36 : decode cX8_luck 36 = .ok (.invokevirtual 135, 3) := by decide +kernel
theorem dX8_luck_39 : decode cX8_luck 39 = .ok (.ifCond .ne 6, 3) := by decide +kernel
theorem dX8_luck_42 : decode cX8_luck 42 = .ok (.bipush (-2), 2) := by decide +kernel
theorem dX8_luck_44 : decode cX8_luck 44 = .ok (.ireturn, 1) := by decide +kernel
theorem dX8_luck_45 : decode cX8_luck 45 = .ok (.iload_n 3, 1) := by decide +kernel
theorem dX8_luck_46 : decode cX8_luck 46 = .ok (.ifCond .ne 10, 3) := by decide +kernel
theorem dX8_luck_49 : decode cX8_luck 49 = .ok (.bipush 10, 2) := by decide +kernel
theorem dX8_luck_51 : decode cX8_luck 51 = .ok (.iload_n 2, 1) := by decide +kernel
theorem dX8_luck_52 : decode cX8_luck 52 = .ok (.isub, 1) := by decide +kernel
theorem dX8_luck_53 : decode cX8_luck 53 = .ok (.goto 5, 3) := by decide +kernel
theorem dX8_luck_56 : decode cX8_luck 56 = .ok (.bipush 10, 2) := by decide +kernel
theorem dX8_luck_58 : decode cX8_luck 58 = .ok (.istore 4, 2) := by decide +kernel
theorem dX8_luck_60 : decode cX8_luck 60 = .ok (.iload 4, 2) := by decide +kernel
theorem dX8_luck_62 : decode cX8_luck 62 = .ok (.bipush 10, 2) := by decide +kernel
theorem dX8_luck_64 : decode cX8_luck 64 = .ok (.iload_n 2, 1) := by decide +kernel
theorem dX8_luck_65 : decode cX8_luck 65 = .ok (.isub, 1) := by decide +kernel
theorem dX8_luck_66 : decode cX8_luck 66 = .ok (.invokestatic 229, 3) := by decide +kernel
theorem dX8_luck_69 : decode cX8_luck 69 = .ok (.idiv, 1) := by decide +kernel
theorem dX8_luck_70 : decode cX8_luck 70 = .ok (.istore 5, 2) := by decide +kernel
theorem dX8_luck_72 : decode cX8_luck 72 = .ok (.iconst 1, 1) := by decide +kernel
theorem dX8_luck_73 : decode cX8_luck 73 = .ok (.istore 6, 2) := by decide +kernel
theorem dX8_luck_75 : decode cX8_luck 75 = .ok (.aload_n 0, 1) := by decide +kernel
theorem dX8_luck_76 : decode cX8_luck 76 = .ok (.getfield 12, 3) := by decide +kernel
theorem dX8_luck_79 : decode cX8_luck 79 = .ok (.iload_n 1, 1) := by decide +kernel
theorem dX8_luck_80 : decode cX8_luck 80 = .ok (.invokevirtual 232, 3) := by decide +kernel
theorem dX8_luck_83 : decode cX8_luck 83 = .ok (.istore 7, 2) := by decide +kernel
theorem dX8_luck_85 : decode cX8_luck 85 = .ok (.iload 7, 2) := by decide +kernel
theorem dX8_luck_87 : decode cX8_luck 87 = .ok (.ifCond .le 16, 3) := by decide +kernel
theorem dX8_luck_90 : decode cX8_luck 90 = .ok (.iload 6, 2) := by decide +kernel
theorem dX8_luck_92 : decode cX8_luck 92 = .ok (.iload 5, 2) := by decide +kernel
theorem dX8_luck_94 : decode cX8_luck 94 = .ok (.imul, 1) := by decide +kernel
theorem dX8_luck_95 : decode cX8_luck 95 = .ok (.istore 6, 2) := by decide +kernel
theorem dX8_luck_97 : decode cX8_luck 97 = .ok (.iinc 7 (-1), 3) := by decide +kernel
theorem dX8_luck_100 : decode cX8_luck 100 = .ok (.goto (-15), 3) := by decide +kernel
theorem dX8_luck_103 : decode cX8_luck 103 = .ok (.iload 6, 2) := by decide +kernel
theorem dX8_luck_105 : decode cX8_luck 105 = .ok (.ireturn, 1) := by decide +kernel
theorem dX8_type_0 : decode cX8_type 0 = .ok (.iload_n 1, 1) := by decide +kernel
theorem dX8_type_1 : decode cX8_type 1 = .ok (.bipush 32, 2) := by decide +kernel
theorem dX8_type_3 : decode cX8_type 3 = .ok (.if_icmp .lt 9, 3) := by decide +kernel
theorem dX8_type_6 : decode cX8_type 6 = .ok (.iload_n 1, 1) := by decide +kernel
theorem dX8_type_7 : decode cX8_type 7 = .ok (.bipush 126, 2) := by decide +kernel
theorem dX8_type_9 : decode cX8_type 9 = .ok (.if_icmp .le 5, 3) := by decide +kernel
theorem dX8_type_12 : decode cX8_type 12 = .ok (.iconst (-1), 1) := by decide +kernel
theorem dX8_type_13 : decode cX8_type 13 = .ok (.ireturn, 1) := by decide +kernel
theorem dX8_type_14 : decode cX8_type 14 = .ok (.aload_n 0, 1) := by decide +kernel
theorem dX8_type_15 : decode cX8_type 15 = .ok (.getfield 32, 3) := by decide +kernel
theorem dX8_type_18 : decode cX8_type 18 = .ok (.getfield 235, 3) := by decide +kernel
theorem dX8_type_21 : decode cX8_type 21 = .ok (.bipush 90, 2) := by decide +kernel
theorem dX8_type_23 : decode cX8_type 23 = .ok (.if_icmp .lt 6, 3) := by decide +kernel
theorem dX8_type_26 : decode cX8_type 26 = .ok (.bipush (-3), 2) := by decide +kernel
theorem dX8_type_28 : decode cX8_type 28 = .ok (.ireturn, 1) := by decide +kernel
theorem dX8_type_29 : decode cX8_type 29 = .ok (.aload_n 0, 1) := by decide +kernel
theorem dX8_type_30 : decode cX8_type 30 = .ok (.getfield 32, 3) := by decide +kernel
theorem dX8_type_33 : decode cX8_type 33 = .ok (.iload_n 1, 1) := by decide +kernel
theorem dX8_type_34 : decode cX8_type 34 = .ok (.i2c, 1) := by decide +kernel
theorem dX8_type_35 : decode cX8_type 35 = .ok (.invokevirtual 238, 3) := by decide +kernel
theorem dX8_type_38 : decode cX8_type 38 = .ok (.aload_n 0, 1) := by decide +kernel
theorem dX8_type_39 : decode cX8_type 39 = .ok (.getfield 32, 3) := by decide +kernel
theorem dX8_type_42 : decode cX8_type 42 = .ok (.getfield 235, 3) := by decide +kernel
theorem dX8_type_45 : decode cX8_type 45 = .ok (.ireturn, 1) := by decide +kernel
theorem dX8_read_0 : decode cX8_read 0 = .ok (.aload_n 0, 1) := by decide +kernel
theorem dX8_read_1 : decode cX8_read 1 = .ok (.getfield 32, 3) := by decide +kernel
theorem dX8_read_4 : decode cX8_read 4 = .ok (.invokevirtual 242, 3) := by decide +kernel
theorem dX8_read_7 : decode cX8_read 7 = .ok (.istore_n 1, 1) := by decide +kernel
theorem dX8_read_8 : decode cX8_read 8 = .ok (.iload_n 1, 1) := by decide +kernel
theorem dX8_read_9 : decode cX8_read 9 = .ok (.iconst (-1), 1) := by decide +kernel
theorem dX8_read_10 : decode cX8_read 10 = .ok (.if_icmp .ne 22, 3) := by decide +kernel
theorem dX8_read_13 : decode cX8_read 13 = .ok (.aload_n 0, 1) := by decide +kernel
theorem dX8_read_14 : decode cX8_read 14 = .ok (.getfield 19, 3) := by decide +kernel
theorem dX8_read_17 : decode cX8_read 17 = .ok (.aload_n 0, 1) := by decide +kernel
theorem dX8_read_18 : decode cX8_read 18 = .ok (.getfield 12, 3) := by decide +kernel
theorem dX8_read_21 : decode cX8_read 21 = .ok (.invokevirtual 64, 3) := by decide +kernel
theorem dX8_read_24 : decode cX8_read 24 = .ok (.aload_n 0, 1) := by decide +kernel
theorem dX8_read_25 : decode cX8_read 25 = .ok (.invokevirtual 245, 3) := by decide +kernel
theorem dX8_read_28 : decode cX8_read 28 = .ok (.istore_n 2, 1) := by decide +kernel
theorem dX8_read_29 : decode cX8_read 29 = .ok (.goto 8, 3) := by decide +kernel
theorem dX8_read_32 : decode cX8_read 32 = .ok (.bipush (-20), 2) := by decide +kernel
theorem dX8_read_34 : decode cX8_read 34 = .ok (.iload_n 1, 1) := by decide +kernel
theorem dX8_read_35 : decode cX8_read 35 = .ok (.isub, 1) := by decide +kernel
theorem dX8_read_36 : decode cX8_read 36 = .ok (.istore_n 2, 1) := by decide +kernel
theorem dX8_read_37 : decode cX8_read 37 = .ok (.aload_n 0, 1) := by decide +kernel
theorem dX8_read_38 : decode cX8_read 38 = .ok (.getfield 32, 3) := by decide +kernel
theorem dX8_read_41 : decode cX8_read 41 = .ok (.iconst 0, 1) := by decide +kernel
theorem dX8_read_42 : decode cX8_read 42 = .ok (.putfield 235, 3) := by decide +kernel
theorem dX8_read_45 : decode cX8_read 45 = .ok (.iload_n 2, 1) := by decide +kernel
theorem dX8_read_46 : decode cX8_read 46 = .ok (.ireturn, 1) := by decide +kernel
theorem dX8_drift_0 : decode cX8_drift 0 = .ok (.iload_n 1, 1) := by decide +kernel
theorem dX8_drift_1 : decode cX8_drift 1 = .ok (.iconst 1, 1) := by decide +kernel
theorem dX8_drift_2 : decode cX8_drift 2 = .ok (.if_icmp .lt 9, 3) := by decide +kernel
theorem dX8_drift_5 : decode cX8_drift 5 = .ok (.iload_n 1, 1) := by decide +kernel
theorem dX8_drift_6 : decode cX8_drift 6 = .ok (.bipush 40, 2) := by decide +kernel
theorem dX8_drift_8 : decode cX8_drift 8 = .ok (.if_icmp .le 5, 3) := by decide +kernel
theorem dX8_drift_11 : decode cX8_drift 11 = .ok (.iconst (-1), 1) := by decide +kernel
theorem dX8_drift_12 : decode cX8_drift 12 = .ok (.ireturn, 1) := by decide +kernel
theorem dX8_drift_13 : decode cX8_drift 13 = .ok (.iconst 0, 1) := by decide +kernel
theorem dX8_drift_14 : decode cX8_drift 14 = .ok (.istore_n 2, 1) := by decide +kernel
theorem dX8_drift_15 : decode cX8_drift 15 = .ok (.iload_n 2, 1) := by decide +kernel
theorem dX8_drift_16 : decode cX8_drift 16 = .ok (.iload_n 1, 1) := by decide +kernel
theorem dX8_drift_17 : decode cX8_drift 17 = .ok (.if_icmp .ge 24, 3) := by decide +kernel
theorem dX8_drift_20 : decode cX8_drift 20 = .ok (.aload_n 0, 1) := by decide +kernel
theorem dX8_drift_21 : decode cX8_drift 21 = .ok (.getfield 19, 3) := by decide +kernel
theorem dX8_drift_24 : decode cX8_drift 24 = .ok (.aload_n 0, 1) := by decide +kernel
theorem dX8_drift_25 : decode cX8_drift 25 = .ok (.getfield 12, 3) := by decide +kernel
theorem dX8_drift_28 : decode cX8_drift 28 = .ok (.invokevirtual 64, 3) := by decide +kernel
theorem dX8_drift_31 : decode cX8_drift 31 = .ok (.aload_n 0, 1) := by decide +kernel
theorem dX8_drift_32 : decode cX8_drift 32 = .ok (.invokevirtual 248, 3) := by decide +kernel
theorem dX8_drift_35 : decode cX8_drift 35 = .ok (.iinc 2 1, 3) := by decide +kernel
theorem dX8_drift_38 : decode cX8_drift 38 = .ok (.goto (-23), 3) := by decide +kernel
theorem dX8_drift_41 : decode cX8_drift 41 = .ok (.aload_n 0, 1) := by decide +kernel
theorem dX8_drift_42 : decode cX8_drift 42 = .ok (.getfield 12, 3) := by decide +kernel
theorem dX8_drift_45 : decode cX8_drift 45 = .ok (.getfield 132, 3) := by decide +kernel
theorem dX8_drift_48 : decode cX8_drift 48 = .ok (.invokevirtual 192, 3) := by decide +kernel
theorem dX8_drift_51 : decode cX8_drift 51 = .ok (.ireturn, 1) := by decide +kernel
theorem dX8_undo_0 : decode cX8_undo 0 = .ok (.aload_n 0, 1) := by decide +kernel
theorem dX8_undo_1 : decode cX8_undo 1 = .ok (.getfield 19, 3) := by decide +kernel
theorem dX8_undo_4 : decode cX8_undo 4 = .ok (.getfield 200, 3) := by decide +kernel
theorem dX8_undo_7 : decode cX8_undo 7 = .ok (.ifCond .ne 6, 3) := by decide +kernel
theorem dX8_undo_10 : decode cX8_undo 10 = .ok (.bipush (-4), 2) := by decide +kernel
theorem dX8_undo_12 : decode cX8_undo 12 = .ok (.ireturn, 1) := by decide +kernel
theorem dX8_undo_13 : decode cX8_undo 13 = .ok (.aload_n 0, 1) := by decide +kernel
theorem dX8_undo_14 : decode cX8_undo 14 = .ok (.getfield 19, 3) := by decide +kernel
theorem dX8_undo_17 : decode cX8_undo 17 = .ok (.aload_n 0, 1) := by decide +kernel
theorem dX8_undo_18 : decode cX8_undo 18 = .ok (.getfield 12, 3) := by decide +kernel
theorem dX8_undo_21 : decode cX8_undo 21 = .ok (.invokevirtual 251, 3) := by decide +kernel
theorem dX8_undo_24 : decode cX8_undo 24 = .ok (.aload_n 0, 1) := by decide +kernel
theorem dX8_undo_25 : decode cX8_undo 25 = .ok (.getfield 19, 3) := by decide +kernel
theorem dX8_undo_28 : decode cX8_undo 28 = .ok (.getfield 200, 3) := by decide +kernel
theorem dX8_undo_31 : decode cX8_undo 31 = .ok (.ireturn, 1) := by decide +kernel
theorem dX8_seed_0 : decode cX8_seed 0 = .ok (.iload_n 1, 1) := by decide +kernel
theorem dX8_seed_1 : decode cX8_seed 1 = .ok (.ifCond .ge 5, 3) := by decide +kernel
theorem dX8_seed_4 : decode cX8_seed 4 = .ok (.iconst (-1), 1) := by decide +kernel
theorem dX8_seed_5 : decode cX8_seed 5 = .ok (.ireturn, 1) := by decide +kernel
theorem dX8_seed_6 : decode cX8_seed 6 = .ok (.aload_n 0, 1) := by decide +kernel
theorem dX8_seed_7 : decode cX8_seed 7 = .ok (.getfield 12, 3) := by decide +kernel
theorem dX8_seed_10 : decode cX8_seed 10 = .ok (.getfield 254, 3) := by decide +kernel
theorem dX8_seed_13 : decode cX8_seed 13 = .ok (.istore_n 2, 1) := by decide +kernel
theorem dX8_seed_14 : decode cX8_seed 14 = .ok (.aload_n 0, 1) := by decide +kernel
theorem dX8_seed_15 : decode cX8_seed 15 = .ok (.getfield 12, 3) := by decide +kernel
theorem dX8_seed_18 : decode cX8_seed 18 = .ok (.iload_n 1, 1) := by decide +kernel
theorem dX8_seed_19 : decode cX8_seed 19 = .ok (.putfield 254, 3) := by decide +kernel
theorem dX8_seed_22 : decode cX8_seed 22 = .ok (.iload_n 2, 1) := by decide +kernel
theorem dX8_seed_23 : decode cX8_seed 23 = .ok (.ireturn, 1) := by decide +kernel
theorem dX8_image_0 : decode cX8_image 0 = .ok (.aload_n 0, 1) := by decide +kernel
theorem dX8_image_1 : decode cX8_image 1 = .ok (.getfield 23, 3) := by decide +kernel
theorem dX8_image_4 : decode cX8_image 4 = .ok (.aload_n 0, 1) := by decide +kernel
theorem dX8_image_5 : decode cX8_image 5 = .ok (.getfield 12, 3) := by decide +kernel
theorem dX8_image_8 : decode cX8_image 8 = .ok (.invokevirtual 257, 3) := by decide +kernel
theorem dX8_image_11 : decode cX8_image 11 = .ok (.aload_n 0, 1) := by decide +kernel
theorem dX8_image_12 : decode cX8_image 12 = .ok (.getfield 26, 3) := by decide +kernel
theorem dX8_image_15 : decode cX8_image 15 = .ok (.aload_n 0, 1) := by decide +kernel
theorem dX8_image_16 : decode cX8_image 16 = .ok (.getfield 19, 3) := by decide +kernel
theorem dX8_image_19 : decode cX8_image 19 = .ok (.invokevirtual 259, 3) := by decide +kernel
theorem dX8_image_22 : decode cX8_image 22 = .ok (.aload_n 0, 1) := by decide +kernel
theorem dX8_image_23 : decode cX8_image 23 = .ok (.iconst 1, 1) := by decide +kernel
theorem dX8_image_24 : decode cX8_image 24 = .ok (.putfield 262, 3) := by decide +kernel
theorem dX8_image_27 : decode cX8_image 27 = .ok (.iconst 1, 1) := by decide +kernel
theorem dX8_image_28 : decode cX8_image 28 = .ok (.ireturn, 1) := by decide +kernel
theorem dX8_restore_0 : decode cX8_restore 0 = .ok (.aload_n 0, 1) := by decide +kernel
theorem dX8_restore_1 : decode cX8_restore 1 = .ok (.getfield 262, 3) := by decide +kernel
theorem dX8_restore_4 : decode cX8_restore 4 = .ok (.ifCond .ne 6, 3) := by decide +kernel
theorem dX8_restore_7 : decode cX8_restore 7 = .ok (.bipush (-4), 2) := by decide +kernel
theorem dX8_restore_9 : decode cX8_restore 9 = .ok (.ireturn, 1) := by decide +kernel
theorem dX8_restore_10 : decode cX8_restore 10 = .ok (.aload_n 0, 1) := by decide +kernel
theorem dX8_restore_11 : decode cX8_restore 11 = .ok (.getfield 12, 3) := by decide +kernel
theorem dX8_restore_14 : decode cX8_restore 14 = .ok (.aload_n 0, 1) := by decide +kernel
theorem dX8_restore_15 : decode cX8_restore 15 = .ok (.getfield 23, 3) := by decide +kernel
theorem dX8_restore_18 : decode cX8_restore 18 = .ok (.invokevirtual 257, 3) := by decide +kernel
theorem dX8_restore_21 : decode cX8_restore 21 = .ok (.aload_n 0, 1) := by decide +kernel
theorem dX8_restore_22 : decode cX8_restore 22 = .ok (.getfield 19, 3) := by decide +kernel
theorem dX8_restore_25 : decode cX8_restore 25 = .ok (.aload_n 0, 1) := by decide +kernel
theorem dX8_restore_26 : decode cX8_restore 26 = .ok (.getfield 26, 3) := by decide +kernel
theorem dX8_restore_29 : decode cX8_restore 29 = .ok (.invokevirtual 259, 3) := by decide +kernel
theorem dX8_restore_32 : decode cX8_restore 32 = .ok (.iconst 1, 1) := by decide +kernel
theorem dX8_restore_33 : decode cX8_restore 33 = .ok (.ireturn, 1) := by decide +kernel
theorem dX8_got_0 : decode cX8_got 0 = .ok (.iload_n 1, 1) := by decide +kernel
theorem dX8_got_1 : decode cX8_got 1 = .ok (.invokestatic 57, 3) := by decide +kernel
theorem dX8_got_4 : decode cX8_got 4 = .ok (.ifCond .ne 30, 3) := by decide +kernel
theorem dX8_got_7 : decode cX8_got 7 = .ok (.iload_n 2, 1) := by decide +kernel
theorem dX8_got_8 : decode cX8_got 8 = .ok (.invokestatic 266, 3) := by decide +kernel
theorem dX8_got_11 : decode cX8_got 11 = .ok (.ifCond .ne 23, 3) := by decide +kernel
theorem dX8_got_14 : decode cX8_got 14 = .ok (.iload_n 3, 1) := by decide +kernel
theorem dX8_got_15 : decode cX8_got 15 = .ok (.invokestatic 269, 3) := by decide +kernel
theorem dX8_got_18 : decode cX8_got 18 = .ok (.ifCond .ne 16, 3) := by decide +kernel
theorem dX8_got_21 : decode cX8_got 21 = .ok (.iload 5, 2) := by decide +kernel
theorem dX8_got_23 : decode cX8_got 23 = .ok (.iconst 1, 1) := by decide +kernel
theorem dX8_got_24 : decode cX8_got 24 = .ok (.if_icmp .lt 10, 3) := by decide +kernel
theorem dX8_got_27 : decode cX8_got 27 = .ok (.iload 5, 2) := by decide +kernel
theorem dX8_got_29 : decode cX8_got 29 = .ok (.bipush 24, 2) := by decide +kernel
theorem dX8_got_31 : decode cX8_got 31 = .ok (.if_icmp .le 5, 3) := by decide +kernel
theorem dX8_got_34 : decode cX8_got 34 = .ok (.iconst (-1), 1) := by decide +kernel
theorem dX8_got_35 : decode cX8_got 35 = .ok (.ireturn, 1) := by decide +kernel
theorem dX8_got_36 : decode cX8_got 36 = .ok (.aload_n 0, 1) := by decide +kernel
theorem dX8_got_37 : decode cX8_got 37 = .ok (.getfield 38, 3) := by decide +kernel
theorem dX8_got_40 : decode cX8_got 40 = .ok (.iload_n 2, 1) := by decide +kernel
theorem dX8_got_41 : decode cX8_got 41 = .ok (.aaload, 1) := by decide +kernel
theorem dX8_got_42 : decode cX8_got 42 = .ok (.astore 6, 2) := by decide +kernel
theorem dX8_got_44 : decode cX8_got 44 = .ok (.aload 6, 2) := by decide +kernel
theorem dX8_got_46 : decode cX8_got 46 = .ok (.iload_n 3, 1) := by decide +kernel
theorem dX8_got_47 : decode cX8_got 47 = .ok (.iload 4, 2) := by decide +kernel
theorem dX8_got_49 : decode cX8_got 49 = .ok (.iload 5, 2) := by decide +kernel
theorem dX8_got_51 : decode cX8_got 51 = .ok (.invokevirtual 272, 3) := by decide +kernel
theorem dX8_got_54 : decode cX8_got 54 = .ok (.istore 7, 2) := by decide +kernel
theorem dX8_got_56 : decode cX8_got 56 = .ok (.iload 7, 2) := by decide +kernel
theorem dX8_got_58 : decode cX8_got 58 = .ok (.ifCond .eq 6, 3) := by decide +kernel
theorem dX8_got_61 : decode cX8_got 61 = .ok (.iload 7, 2) := by decide +kernel
theorem dX8_got_63 : decode cX8_got 63 = .ok (.ireturn, 1) := by decide +kernel
theorem dX8_got_64 : decode cX8_got 64 = .ok (.aload_n 0, 1) := by decide +kernel
theorem dX8_got_65 : decode cX8_got 65 = .ok (.aload 6, 2) := by decide +kernel
theorem dX8_got_67 : decode cX8_got 67 = .ok (.iload 4, 2) := by decide +kernel
theorem dX8_got_69 : decode cX8_got 69 = .ok (.iload 5, 2) := by decide +kernel
theorem dX8_got_71 : decode cX8_got 71 = .ok (.invokevirtual 276, 3) := by decide +kernel
theorem dX8_got_74 : decode cX8_got 74 = .ok (.ifCond .ne 6, 3) := by decide +kernel
theorem dX8_got_77 : decode cX8_got 77 = .ok (.bipush (-2), 2) := by decide +kernel
theorem dX8_got_79 : decode cX8_got 79 = .ok (.ireturn, 1) := by decide +kernel
theorem dX8_got_80 : decode cX8_got 80 = .ok (.aload_n 0, 1) := by decide +kernel
theorem dX8_got_81 : decode cX8_got 81 = .ok (.getfield 12, 3) := by decide +kernel
theorem dX8_got_84 : decode cX8_got 84 = .ok (.invokevirtual 145, 3) := by decide +kernel
theorem dX8_got_87 : decode cX8_got 87 = .ok (.istore 8, 2) := by decide +kernel
theorem dX8_got_89 : decode cX8_got 89 = .ok (.iload 8, 2) := by decide +kernel
theorem dX8_got_91 : decode cX8_got 91 = .ok (.bipush (-4), 2) := by decide +kernel
theorem dX8_got_93 : decode cX8_got 93 = .ok (.if_icmp .ne 6, 3) := by decide +kernel
theorem dX8_got_96 : decode cX8_got 96 = .ok (.bipush (-4), 2) := by decide +kernel
theorem dX8_got_98 : decode cX8_got 98 = .ok (.ireturn, 1) := by decide +kernel
theorem dX8_got_99 : decode cX8_got 99 = .ok (.aload_n 0, 1) := by decide +kernel
theorem dX8_got_100 : decode cX8_got 100 = .ok (.getfield 52, 3) := by decide +kernel
theorem dX8_got_103 : decode cX8_got 103 = .ok (.aload_n 0, 1) := by decide +kernel
theorem dX8_got_104 : decode cX8_got 104 = .ok (.getfield 12, 3) := by decide +kernel
theorem dX8_got_107 : decode cX8_got 107 = .ok (.getfield 120, 3) := by decide +kernel
theorem dX8_got_110 : decode cX8_got 110 = .ok (.iconst 1, 1) := by decide +kernel
theorem dX8_got_111 : decode cX8_got 111 = .ok (.iload_n 1, 1) := by decide +kernel
theorem dX8_got_112 : decode cX8_got 112 = .ok (.ishl, 1) := by decide +kernel
theorem dX8_got_113 : decode cX8_got 113 = .ok (.invokevirtual 206, 3) := by decide +kernel
theorem dX8_got_116 : decode cX8_got 116 = .ok (.iload 4, 2) := by decide +kernel
theorem dX8_got_118 : decode cX8_got 118 = .ok (.istore 9, 2) := by decide +kernel
theorem dX8_got_120 : decode cX8_got 120 = .ok (.iload 9, 2) := by decide +kernel
theorem dX8_got_122 : decode cX8_got 122 = .ok (.iload 4, 2) := by decide +kernel
theorem dX8_got_124 : decode cX8_got 124 = .ok (.iload 5, 2) := by decide +kernel
theorem dX8_got_126 : decode cX8_got 126 = .ok (.iadd, 1) := by decide +kernel
theorem dX8_got_127 : decode cX8_got 127 = .ok (.if_icmp .ge 33, 3) := by decide +kernel
theorem dX8_got_130 : decode cX8_got 130 = .ok (.aload_n 0, 1) := by decide +kernel
theorem dX8_got_131 : decode cX8_got 131 = .ok (.getfield 52, 3) := by decide +kernel
theorem dX8_got_134 : decode cX8_got 134 = .ok (.aload_n 0, 1) := by decide +kernel
theorem dX8_got_135 : decode cX8_got 135 = .ok (.getfield 12, 3) := by decide +kernel
theorem dX8_got_138 : decode cX8_got 138 = .ok (.getfield 178, 3) := by decide +kernel
theorem dX8_got_141 : decode cX8_got 141 = .ok (.aload 6, 2) := by decide +kernel
theorem dX8_got_143 : decode cX8_got 143 = .ok (.getfield 280, 3) := by decide +kernel
theorem dX8_got_146 : decode cX8_got 146 = .ok (.iload 9, 2) := by decide +kernel
theorem dX8_got_148 : decode cX8_got 148 = .ok (.laload, 1) := by decide +kernel
theorem dX8_got_149 : decode cX8_got 149 = .ok (.l2i, 1) := by decide +kernel
theorem dX8_got_150 : decode cX8_got 150 = .ok (.invokevirtual 284, 3) := by decide +kernel
theorem dX8_got_153 : decode cX8_got 153 = .ok (.pop, 1) := by decide +kernel
theorem dX8_got_154 : decode cX8_got 154 = .ok (.iinc 9 1, 3) := by decide +kernel
theorem dX8_got_157 : decode cX8_got 157 = .ok (.goto (-37), 3) := by decide +kernel
theorem dX8_got_160 : decode cX8_got 160 = .ok (.aload_n 0, 1) := by decide +kernel
theorem dX8_got_161 : decode cX8_got 161 = .ok (.getfield 52, 3) := by decide +kernel
theorem dX8_got_164 : decode cX8_got 164 = .ok (.iload 8, 2) := by decide +kernel
theorem dX8_got_166 : decode cX8_got 166 = .ok (.invokevirtual 214, 3) := by decide +kernel
theorem dX8_got_169 : decode cX8_got 169 = .ok (.ifCond .eq 7, 3) := by decide +kernel
theorem dX8_got_172 : decode cX8_got 172 = .ok (.iconst 1, 1) := by decide +kernel
theorem dX8_got_173 : decode cX8_got 173 = .ok (.goto 4, 3) := by decide +kernel
theorem dX8_got_176 : decode cX8_got 176 = .ok (.iconst 0, 1) := by decide +kernel
theorem dX8_got_177 : decode cX8_got 177 = .ok (.ireturn, 1) := by decide +kernel
theorem dX8_film_0 : decode cX8_film 0 = .ok (.iload_n 1, 1) := by decide +kernel
theorem dX8_film_1 : decode cX8_film 1 = .ok (.bipush 16, 2) := by decide +kernel
theorem dX8_film_3 : decode cX8_film 3 = .ok (.if_icmp .lt 23, 3) := by decide +kernel
theorem dX8_film_6 : decode cX8_film 6 = .ok (.iload_n 1, 1) := by decide +kernel
theorem dX8_film_7 : decode cX8_film 7 = .ok (.bipush 32, 2) := by decide +kernel
theorem dX8_film_9 : decode cX8_film 9 = .ok (.if_icmp .ge 17, 3) := by decide +kernel
theorem dX8_film_12 : decode cX8_film 12 = .ok (.iload_n 2, 1) := by decide +kernel
theorem dX8_film_13 : decode cX8_film 13 = .ok (.invokestatic 266, 3) := by decide +kernel
theorem dX8_film_16 : decode cX8_film 16 = .ok (.ifCond .ne 10, 3) := by decide +kernel
theorem dX8_film_19 : decode cX8_film 19 = .ok (.iload_n 3, 1) := by decide +kernel
theorem dX8_film_20 : decode cX8_film 20 = .ok (.invokestatic 269, 3) := by decide +kernel
theorem dX8_film_23 : decode cX8_film 23 = .ok (.ifCond .eq 5, 3) := by decide +kernel
theorem dX8_film_26 : decode cX8_film 26 = .ok (.iconst (-1), 1) := by decide +kernel
theorem dX8_film_27 : decode cX8_film 27 = .ok (.ireturn, 1) := by decide +kernel
theorem dX8_film_28 : decode cX8_film 28 = .ok (.aload_n 0, 1) := by decide +kernel
theorem dX8_film_29 : decode cX8_film 29 = .ok (.getfield 38, 3) := by decide +kernel
theorem dX8_film_32 : decode cX8_film 32 = .ok (.iload_n 2, 1) := by decide +kernel
theorem dX8_film_33 : decode cX8_film 33 = .ok (.aaload, 1) := by decide +kernel
theorem dX8_film_34 : decode cX8_film 34 = .ok (.astore 5, 2) := by decide +kernel
theorem dX8_film_36 : decode cX8_film 36 = .ok (.aload 5, 2) := by decide +kernel
theorem dX8_film_38 : decode cX8_film 38 = .ok (.iload_n 3, 1) := by decide +kernel
theorem dX8_film_39 : decode cX8_film 39 = .ok (.iload 4, 2) := by decide +kernel
theorem dX8_film_41 : decode cX8_film 41 = .ok (.iconst 5, 1) := by decide +kernel
theorem dX8_film_42 : decode cX8_film 42 = .ok (.invokevirtual 272, 3) := by decide +kernel
theorem dX8_film_45 : decode cX8_film 45 = .ok (.istore 6, 2) := by decide +kernel
theorem dX8_film_47 : decode cX8_film 47 = .ok (.iload 6, 2) := by decide +kernel
theorem dX8_film_49 : decode cX8_film 49 = .ok (.ifCond .eq 6, 3) := by decide +kernel
theorem dX8_film_52 : decode cX8_film 52 = .ok (.iload 6, 2) := by decide +kernel
theorem dX8_film_54 : decode cX8_film 54 = .ok (.ireturn, 1) := by decide +kernel
theorem dX8_film_55 : decode cX8_film 55 = .ok (.iload_n 1, 1) := by decide +kernel
theorem dX8_film_56 : decode cX8_film 56 = .ok (.istore 7, 2) := by decide +kernel
theorem dX8_film_58 : decode cX8_film 58 = .ok (.iconst 0, 1) := by decide +kernel
theorem dX8_film_59 : decode cX8_film 59 = .ok (.istore 8, 2) := by decide +kernel
theorem dX8_film_61 : decode cX8_film 61 = .ok (.iload 8, 2) := by decide +kernel
theorem dX8_film_63 : decode cX8_film 63 = .ok (.iconst 5, 1) := by decide +kernel
theorem dX8_film_64 : decode cX8_film 64 = .ok (.if_icmp .ge 39, 3) := by decide +kernel
theorem dX8_film_67 : decode cX8_film 67 = .ok (.aload 5, 2) := by decide +kernel
theorem dX8_film_69 : decode cX8_film 69 = .ok (.iload 4, 2) := by decide +kernel
theorem dX8_film_71 : decode cX8_film 71 = .ok (.iload 8, 2) := by decide +kernel
theorem dX8_film_73 : decode cX8_film 73 = .ok (.iadd, 1) := by decide +kernel
theorem dX8_film_74 : decode cX8_film 74 = .ok (.aload_n 0, 1) := by decide +kernel
theorem dX8_film_75 : decode cX8_film 75 = .ok (.getfield 12, 3) := by decide +kernel
theorem dX8_film_78 : decode cX8_film 78 = .ok (.getfield 120, 3) := by decide +kernel
theorem dX8_film_81 : decode cX8_film 81 = .ok (.getfield 160, 3) := by decide +kernel
theorem dX8_film_84 : decode cX8_film 84 = .ok (.iload 7, 2) := by decide +kernel
theorem dX8_film_86 : decode cX8_film 86 = .ok (.iaload, 1) := by decide +kernel
theorem dX8_film_87 : decode cX8_film 87 = .ok (.i2l, 1) := by decide +kernel
theorem dX8_film_88 : decode cX8_film 88 = .ok (.invokevirtual 288, 3) := by decide +kernel
theorem dX8_film_91 : decode cX8_film 91 = .ok (.iload 7, 2) := by decide +kernel
theorem dX8_film_93 : decode cX8_film 93 = .ok (.iconst 2, 1) := by decide +kernel
theorem dX8_film_94 : decode cX8_film 94 = .ok (.idiv, 1) := by decide +kernel
theorem dX8_film_95 : decode cX8_film 95 = .ok (.istore 7, 2) := by decide +kernel
theorem dX8_film_97 : decode cX8_film 97 = .ok (.iinc 8 1, 3) := by decide +kernel
theorem dX8_film_100 : decode cX8_film 100 = .ok (.goto (-39), 3) := by decide +kernel
theorem dX8_film_103 : decode cX8_film 103 = .ok (.iconst 5, 1) := by decide +kernel
theorem dX8_film_104 : decode cX8_film 104 = .ok (.ireturn, 1) := by decide +kernel
theorem dX8_sheet_0 : decode cX8_sheet 0 = .ok (.iload_n 1, 1) := by decide +kernel
theorem dX8_sheet_1 : decode cX8_sheet 1 = .ok (.invokestatic 266, 3) := by decide +kernel
theorem dX8_sheet_4 : decode cX8_sheet 4 = .ok (.ifCond .ne 16, 3) := by decide +kernel
theorem dX8_sheet_7 : decode cX8_sheet 7 = .ok (.iload_n 2, 1) := by decide +kernel
theorem dX8_sheet_8 : decode cX8_sheet 8 = .ok (.invokestatic 269, 3) := by decide +kernel
theorem dX8_sheet_11 : decode cX8_sheet 11 = .ok (.ifCond .ne 9, 3) := by decide +kernel
theorem dX8_sheet_14 : decode cX8_sheet 14 = .ok (.iload_n 3, 1) := by decide +kernel
theorem dX8_sheet_15 : decode cX8_sheet 15 = .ok (.bipush 24, 2) := by decide +kernel
theorem dX8_sheet_17 : decode cX8_sheet 17 = .ok (.if_icmp .le 5, 3) := by decide +kernel
theorem dX8_sheet_20 : decode cX8_sheet 20 = .ok (.iconst (-1), 1) := by decide +kernel
theorem dX8_sheet_21 : decode cX8_sheet 21 = .ok (.ireturn, 1) := by decide +kernel
theorem dX8_sheet_22 : decode cX8_sheet 22 = .ok (.iload_n 3, 1) := by decide +kernel
theorem dX8_sheet_23 : decode cX8_sheet 23 = .ok (.ifCond .ge 6, 3) := by decide +kernel
theorem dX8_sheet_26 : decode cX8_sheet 26 = .ok (.bipush (-14), 2) := by decide +kernel
theorem dX8_sheet_28 : decode cX8_sheet 28 = .ok (.ireturn, 1) := by decide +kernel
theorem dX8_sheet_29 : decode cX8_sheet 29 = .ok (.aload_n 0, 1) := by decide +kernel
theorem dX8_sheet_30 : decode cX8_sheet 30 = .ok (.getfield 38, 3) := by decide +kernel
theorem dX8_sheet_33 : decode cX8_sheet 33 = .ok (.iload_n 1, 1) := by decide +kernel
theorem dX8_sheet_34 : decode cX8_sheet 34 = .ok (.aaload, 1) := by decide +kernel
theorem dX8_sheet_35 : decode cX8_sheet 35 = .ok (.iload_n 2, 1) := by decide +kernel
theorem dX8_sheet_36 : decode cX8_sheet 36 = .ok (.iload_n 3, 1) := by decide +kernel
theorem dX8_sheet_37 : decode cX8_sheet 37 = .ok (.invokevirtual 292, 3) := by decide +kernel
theorem dX8_sheet_40 : decode cX8_sheet 40 = .ok (.iload_n 3, 1) := by decide +kernel
theorem dX8_sheet_41 : decode cX8_sheet 41 = .ok (.ireturn, 1) := by decide +kernel
theorem dX8_drop_0 : decode cX8_drop 0 = .ok (.iload_n 1, 1) := by decide +kernel
theorem dX8_drop_1 : decode cX8_drop 1 = .ok (.invokestatic 266, 3) := by decide +kernel
theorem dX8_drop_4 : decode cX8_drop 4 = .ok (.ifCond .eq 5, 3) := by decide +kernel
theorem dX8_drop_7 : decode cX8_drop 7 = .ok (.iconst (-1), 1) := by decide +kernel
theorem dX8_drop_8 : decode cX8_drop 8 = .ok (.ireturn, 1) := by decide +kernel
theorem dX8_drop_9 : decode cX8_drop 9 = .ok (.aload_n 0, 1) := by decide +kernel
theorem dX8_drop_10 : decode cX8_drop 10 = .ok (.getfield 38, 3) := by decide +kernel
theorem dX8_drop_13 : decode cX8_drop 13 = .ok (.iload_n 1, 1) := by decide +kernel
theorem dX8_drop_14 : decode cX8_drop 14 = .ok (.aaload, 1) := by decide +kernel
theorem dX8_drop_15 : decode cX8_drop 15 = .ok (.astore_n 2, 1) := by decide +kernel
theorem dX8_drop_16 : decode cX8_drop 16 = .ok (.aload_n 2, 1) := by decide +kernel
theorem dX8_drop_17 : decode cX8_drop 17 = .ok (.getfield 296, 3) := by decide +kernel
theorem dX8_drop_20 : decode cX8_drop 20 = .ok (.iconst (-1), 1) := by decide +kernel
theorem dX8_drop_21 : decode cX8_drop 21 = .ok (.if_icmp .ne 6, 3) := by decide +kernel
theorem dX8_drop_24 : decode cX8_drop 24 = .ok (.bipush (-11), 2) := by decide +kernel
theorem dX8_drop_26 : decode cX8_drop 26 = .ok (.ireturn, 1) := by decide +kernel
theorem dX8_drop_27 : decode cX8_drop 27 = .ok (.aload_n 2, 1) := by decide +kernel
theorem dX8_drop_28 : decode cX8_drop 28 = .ok (.getfield 299, 3) := by decide +kernel
theorem dX8_drop_31 : decode cX8_drop 31 = .ok (.istore_n 3, 1) := by decide +kernel
theorem dX8_drop_32 : decode cX8_drop 32 = .ok (.aload_n 2, 1) := by decide +kernel
theorem dX8_drop_33 : decode cX8_drop 33 = .ok (.iconst (-1), 1) := by decide +kernel
theorem dX8_drop_34 : decode cX8_drop 34 = .ok (.iconst 0, 1) := by decide +kernel
theorem dX8_drop_35 : decode cX8_drop 35 = .ok (.invokevirtual 292, 3) := by decide +kernel
theorem dX8_drop_38 : decode cX8_drop 38 = .ok (.iload_n 3, 1) := by decide +kernel
theorem dX8_drop_39 : decode cX8_drop 39 = .ok (.ireturn, 1) := by decide +kernel
theorem dX8_item_0 : decode cX8_item 0 = .ok (.iload_n 1, 1) := by decide +kernel
theorem dX8_item_1 : decode cX8_item 1 = .ok (.invokestatic 266, 3) := by decide +kernel
theorem dX8_item_4 : decode cX8_item 4 = .ok (.ifCond .ne 10, 3) := by decide +kernel
theorem dX8_item_7 : decode cX8_item 7 = .ok (.iload_n 2, 1) := by decide +kernel
theorem dX8_item_8 : decode cX8_item 8 = .ok (.invokestatic 269, 3) := by decide +kernel
theorem dX8_item_11 : decode cX8_item 11 = .ok (.ifCond .eq 5, 3) := by decide +kernel
theorem dX8_item_14 : decode cX8_item 14 = .ok (.iconst (-1), 1) := by decide +kernel
theorem dX8_item_15 : decode cX8_item 15 = .ok (.ireturn, 1) := by decide +kernel
theorem dX8_item_16 : decode cX8_item 16 = .ok (.aload_n 0, 1) := by decide +kernel
theorem dX8_item_17 : decode cX8_item 17 = .ok (.getfield 38, 3) := by decide +kernel
theorem dX8_item_20 : decode cX8_item 20 = .ok (.iload_n 1, 1) := by decide +kernel
theorem dX8_item_21 : decode cX8_item 21 = .ok (.aaload, 1) := by decide +kernel
theorem dX8_item_22 : decode cX8_item 22 = .ok (.astore 6, 2) := by decide +kernel
theorem dX8_item_24 : decode cX8_item 24 = .ok (.aload 6, 2) := by decide +kernel
theorem dX8_item_26 : decode cX8_item 26 = .ok (.iload_n 2, 1) := by decide +kernel
theorem dX8_item_27 : decode cX8_item 27 = .ok (.iload_n 3, 1) := by decide +kernel
theorem dX8_item_28 : decode cX8_item 28 = .ok (.iconst 1, 1) := by decide +kernel
theorem dX8_item_29 : decode cX8_item 29 = .ok (.invokevirtual 272, 3) := by decide +kernel
theorem dX8_item_32 : decode cX8_item 32 = .ok (.istore 7, 2) := by decide +kernel
theorem dX8_item_34 : decode cX8_item 34 = .ok (.iload 7, 2) := by decide +kernel
theorem dX8_item_36 : decode cX8_item 36 = .ok (.ifCond .eq 6, 3) := by decide +kernel
theorem dX8_item_39 : decode cX8_item 39 = .ok (.iload 7, 2) := by decide +kernel
theorem dX8_item_41 : decode cX8_item 41 = .ok (.ireturn, 1) := by decide +kernel
theorem dX8_item_42 : decode cX8_item 42 = .ok (.aload 6, 2) := by decide +kernel
theorem dX8_item_44 : decode cX8_item 44 = .ok (.iload_n 3, 1) := by decide +kernel
theorem dX8_item_45 : decode cX8_item 45 = .ok (.lload 4, 2) := by decide +kernel
theorem dX8_item_47 : decode cX8_item 47 = .ok (.invokevirtual 288, 3) := by decide +kernel
theorem dX8_item_50 : decode cX8_item 50 = .ok (.iconst 1, 1) := by decide +kernel
theorem dX8_item_51 : decode cX8_item 51 = .ok (.ireturn, 1) := by decide +kernel
theorem dX8_copy_0 : decode cX8_copy 0 = .ok (.iload_n 1, 1) := by decide +kernel
theorem dX8_copy_1 : decode cX8_copy 1 = .ok (.invokestatic 266, 3) := by decide +kernel
theorem dX8_copy_4 : decode cX8_copy 4 = .ok (.ifCond .ne 10, 3) := by decide +kernel
theorem dX8_copy_7 : decode cX8_copy 7 = .ok (.iload_n 3, 1) := by decide +kernel
theorem dX8_copy_8 : decode cX8_copy 8 = .ok (.invokestatic 266, 3) := by decide +kernel
theorem dX8_copy_11 : decode cX8_copy 11 = .ok (.ifCond .eq 5, 3) := by decide +kernel
theorem dX8_copy_14 : decode cX8_copy 14 = .ok (.iconst (-1), 1) := by decide +kernel
theorem dX8_copy_15 : decode cX8_copy 15 = .ok (.ireturn, 1) := by decide +kernel
theorem dX8_copy_16 : decode cX8_copy 16 = .ok (.aload_n 0, 1) := by decide +kernel
theorem dX8_copy_17 : decode cX8_copy 17 = .ok (.getfield 38, 3) := by decide +kernel
theorem dX8_copy_20 : decode cX8_copy 20 = .ok (.iload_n 1, 1) := by decide +kernel
theorem dX8_copy_21 : decode cX8_copy 21 = .ok (.aaload, 1) := by decide +kernel
theorem dX8_copy_22 : decode cX8_copy 22 = .ok (.astore 6, 2) := by decide +kernel
theorem dX8_copy_24 : decode cX8_copy 24 = .ok (.aload_n 0, 1) := by decide +kernel
theorem dX8_copy_25 : decode cX8_copy 25 = .ok (.getfield 38, 3) := by decide +kernel
theorem dX8_copy_28 : decode cX8_copy 28 = .ok (.iload_n 3, 1) := by decide +kernel
theorem dX8_copy_29 : decode cX8_copy 29 = .ok (.aaload, 1) := by decide +kernel
theorem dX8_copy_30 : decode cX8_copy 30 = .ok (.astore 7, 2) := by decide +kernel
theorem dX8_copy_32 : decode cX8_copy 32 = .ok (.aload 6, 2) := by decide +kernel
theorem dX8_copy_34 : decode cX8_copy 34 = .ok (.getfield 296, 3) := by decide +kernel
theorem dX8_copy_37 : decode cX8_copy 37 = .ok (.iconst (-1), 1) := by decide +kernel
theorem dX8_copy_38 : decode cX8_copy 38 = .ok (.if_icmp .eq 12, 3) := by decide +kernel
theorem dX8_copy_41 : decode cX8_copy 41 = .ok (.aload 7, 2) := by decide +kernel
theorem dX8_copy_43 : decode cX8_copy 43 = .ok (.getfield 296, 3) := by decide +kernel
theorem dX8_copy_46 : decode cX8_copy 46 = .ok (.iconst (-1), 1) := by decide +kernel
theorem dX8_copy_47 : decode cX8_copy 47 = .ok (.if_icmp .ne 6, 3) := by decide +kernel
theorem dX8_copy_50 : decode cX8_copy 50 = .ok (.bipush (-11), 2) := by decide +kernel
theorem dX8_copy_52 : decode cX8_copy 52 = .ok (.ireturn, 1) := by decide +kernel
theorem dX8_copy_53 : decode cX8_copy 53 = .ok (.aload 6, 2) := by decide +kernel
theorem dX8_copy_55 : decode cX8_copy 55 = .ok (.getfield 296, 3) := by decide +kernel
theorem dX8_copy_58 : decode cX8_copy 58 = .ok (.aload 7, 2) := by decide +kernel
theorem dX8_copy_60 : decode cX8_copy 60 = .ok (.getfield 296, 3) := by decide +kernel
theorem dX8_copy_63 : decode cX8_copy 63 = .ok (.if_icmp .eq 6, 3) := by decide +kernel
theorem dX8_copy_66 : decode cX8_copy 66 = .ok (.bipush (-12), 2) := by decide +kernel
theorem dX8_copy_68 : decode cX8_copy 68 = .ok (.ireturn, 1) := by decide +kernel
theorem dX8_copy_69 : decode cX8_copy 69 = .ok (.aload 6, 2) := by decide +kernel
theorem dX8_copy_71 : decode cX8_copy 71 = .ok (.iload_n 2, 1) := by decide +kernel
theorem dX8_copy_72 : decode cX8_copy 72 = .ok (.iload 5, 2) := by decide +kernel
theorem dX8_copy_74 : decode cX8_copy 74 = .ok (.invokevirtual 300, 3) := by decide +kernel
theorem dX8_copy_77 : decode cX8_copy 77 = .ok (.ifCond .ne 15, 3) := by decide +kernel
theorem dX8_copy_80 : decode cX8_copy 80 = .ok (.aload 7, 2) := by decide +kernel
theorem dX8_copy_82 : decode cX8_copy 82 = .ok (.iload 4, 2) := by decide +kernel
theorem dX8_copy_84 : decode cX8_copy 84 = .ok (.iload 5, 2) := by decide +kernel
theorem dX8_copy_86 : decode cX8_copy 86 = .ok (.invokevirtual 300, 3) := by decide +kernel
theorem dX8_copy_89 : decode cX8_copy 89 = .ok (.ifCond .eq 6, 3) := by decide +kernel
theorem dX8_copy_92 : decode cX8_copy 92 = .ok (.bipush (-13), 2) := by decide +kernel
theorem dX8_copy_94 : decode cX8_copy 94 = .ok (.ireturn, 1) := by decide +kernel
theorem dX8_copy_95 : decode cX8_copy 95 = .ok (.aload 6, 2) := by decide +kernel
theorem dX8_copy_97 : decode cX8_copy 97 = .ok (.getfield 280, 3) := by decide +kernel
theorem dX8_copy_100 : decode cX8_copy 100 = .ok (.iload_n 2, 1) := by decide +kernel
theorem dX8_copy_101 : decode cX8_copy 101 = .ok (.aload 7, 2) := by decide +kernel
theorem dX8_copy_103 : decode cX8_copy 103 = .ok (.getfield 280, 3) := by decide +kernel
theorem dX8_copy_106 : decode cX8_copy 106 = .ok (.iload 4, 2) := by decide +kernel
theorem dX8_copy_108 : decode cX8_copy 108 = .ok (.iload 5, 2) := by decide +kernel
theorem dX8_copy_110 : decode cX8_copy 110 = .ok (.invokestatic 304, 3) := by decide +kernel
theorem dX8_copy_113 : decode cX8_copy 113 = .ok (.iload 5, 2) := by decide +kernel
theorem dX8_copy_115 : decode cX8_copy 115 = .ok (.ireturn, 1) := by decide +kernel
theorem dX8_noMember_0 : decode cX8_noMember 0 = .ok (.iload_n 0, 1) := by decide +kernel
theorem dX8_noMember_1 : decode cX8_noMember 1 = .ok (.ifCond .lt 9, 3) := by decide +kernel
theorem dX8_noMember_4 : decode cX8_noMember 4 = .ok (.iload_n 0, 1) := by decide +kernel
theorem dX8_noMember_5 : decode cX8_noMember 5 = .ok (.bipush 16, 2) := by decide +kernel
theorem dX8_noMember_7 : decode cX8_noMember 7 = .ok (.if_icmp .lt 7, 3) := by decide +kernel
theorem dX8_noMember_10 : decode cX8_noMember 10 = .ok (.iconst 1, 1) := by decide +kernel
theorem dX8_noMember_11 : decode cX8_noMember 11 = .ok (.goto 4, 3) := by decide +kernel
theorem dX8_noMember_14 : decode cX8_noMember 14 = .ok (.iconst 0, 1) := by decide +kernel
theorem dX8_noMember_15 : decode cX8_noMember 15 = .ok (.ireturn, 1) := by decide +kernel
theorem dX8_noSheet_0 : decode cX8_noSheet 0 = .ok (.iload_n 0, 1) := by decide +kernel
theorem dX8_noSheet_1 : decode cX8_noSheet 1 = .ok (.ifCond .lt 8, 3) := by decide +kernel
theorem dX8_noSheet_4 : decode cX8_noSheet 4 = .ok (.iload_n 0, 1) := by decide +kernel
theorem dX8_noSheet_5 : decode cX8_noSheet 5 = .ok (.iconst 4, 1) := by decide +kernel
theorem dX8_noSheet_6 : decode cX8_noSheet 6 = .ok (.if_icmp .lt 7, 3) := by decide +kernel
theorem dX8_noSheet_9 : decode cX8_noSheet 9 = .ok (.iconst 1, 1) := by decide +kernel
theorem dX8_noSheet_10 : decode cX8_noSheet 10 = .ok (.goto 4, 3) := by decide +kernel
theorem dX8_noSheet_13 : decode cX8_noSheet 13 = .ok (.iconst 0, 1) := by decide +kernel
theorem dX8_noSheet_14 : decode cX8_noSheet 14 = .ok (.ireturn, 1) := by decide +kernel
theorem dX8_noLane_0 : decode cX8_noLane 0 = .ok (.iload_n 0, 1) := by decide +kernel
theorem dX8_noLane_1 : decode cX8_noLane 1 = .ok (.ifCond .lt 8, 3) := by decide +kernel
theorem dX8_noLane_4 : decode cX8_noLane 4 = .ok (.iload_n 0, 1) := by decide +kernel
theorem dX8_noLane_5 : decode cX8_noLane 5 = .ok (.iconst 4, 1) := by decide +kernel
theorem dX8_noLane_6 : decode cX8_noLane 6 = .ok (.if_icmp .lt 7, 3) := by decide +kernel
theorem dX8_noLane_9 : decode cX8_noLane 9 = .ok (.iconst 1, 1) := by decide +kernel
theorem dX8_noLane_10 : decode cX8_noLane 10 = .ok (.goto 4, 3) := by decide +kernel
theorem dX8_noLane_13 : decode cX8_noLane 13 = .ok (.iconst 0, 1) := by decide +kernel
theorem dX8_noLane_14 : decode cX8_noLane 14 = .ok (.ireturn, 1) := by decide +kernel
theorem dX8_bit_0 : decode cX8_bit 0 = .ok (.iload_n 0, 1) := by decide +kernel
theorem dX8_bit_1 : decode cX8_bit 1 = .ok (.iload_n 1, 1) := by decide +kernel
theorem dX8_bit_2 : decode cX8_bit 2 = .ok (.iushr, 1) := by decide +kernel
theorem dX8_bit_3 : decode cX8_bit 3 = .ok (.iconst 1, 1) := by decide +kernel
theorem dX8_bit_4 : decode cX8_bit 4 = .ok (.iand, 1) := by decide +kernel
theorem dX8_bit_5 : decode cX8_bit 5 = .ok (.ireturn, 1) := by decide +kernel
theorem dX8_has_0 : decode cX8_has 0 = .ok (.iload_n 0, 1) := by decide +kernel
theorem dX8_has_1 : decode cX8_has 1 = .ok (.iload_n 1, 1) := by decide +kernel
theorem dX8_has_2 : decode cX8_has 2 = .ok (.invokestatic 151, 3) := by decide +kernel
theorem dX8_has_5 : decode cX8_has 5 = .ok (.iconst 1, 1) := by decide +kernel
theorem dX8_has_6 : decode cX8_has 6 = .ok (.if_icmp .ne 7, 3) := by decide +kernel
theorem dX8_has_9 : decode cX8_has 9 = .ok (.iconst 1, 1) := by decide +kernel
theorem dX8_has_10 : decode cX8_has 10 = .ok (.goto 4, 3) := by decide +kernel
theorem dX8_has_13 : decode cX8_has 13 = .ok (.iconst 0, 1) := by decide +kernel
theorem dX8_has_14 : decode cX8_has 14 = .ok (.ireturn, 1) := by decide +kernel
theorem dX8_commonOfTen_0 : decode cX8_commonOfTen 0 = .ok (.bipush 10, 2) := by decide +kernel
theorem dX8_commonOfTen_2 : decode cX8_commonOfTen 2 = .ok (.istore_n 1, 1) := by decide +kernel
theorem dX8_commonOfTen_3 : decode cX8_commonOfTen 3 = .ok (.iload_n 1, 1) := by decide +kernel
theorem dX8_commonOfTen_4 : decode cX8_commonOfTen 4 = .ok (.iconst 1, 1) := by decide +kernel
theorem dX8_commonOfTen_5 : decode cX8_commonOfTen 5 = .ok (.if_icmp .le 24, 3) := by decide +kernel
theorem dX8_commonOfTen_8 : decode cX8_commonOfTen 8 = .ok (.bipush 10, 2) := by decide +kernel
theorem dX8_commonOfTen_10 : decode cX8_commonOfTen 10 = .ok (.iload_n 1, 1) := by decide +kernel
theorem dX8_commonOfTen_11 : decode cX8_commonOfTen 11 = .ok (.irem, 1) := by decide +kernel
theorem dX8_commonOfTen_12 : decode cX8_commonOfTen 12 = .ok (.ifCond .ne 11, 3) := by decide +kernel
theorem dX8_commonOfTen_15 : decode cX8_commonOfTen 15 = .ok (.iload_n 0, 1) := by decide +kernel
theorem dX8_commonOfTen_16 : decode cX8_commonOfTen 16 = .ok (.iload_n 1, 1) := by decide +kernel
theorem dX8_commonOfTen_17 : decode cX8_commonOfTen 17 = .ok (.irem, 1) := by decide +kernel
theorem dX8_commonOfTen_18 : decode cX8_commonOfTen 18 = .ok (.ifCond .ne 5, 3) := by decide +kernel
theorem dX8_commonOfTen_21 : decode cX8_commonOfTen 21 = .ok (.iload_n 1, 1) := by decide +kernel
theorem dX8_commonOfTen_22 : decode cX8_commonOfTen 22 = .ok (.ireturn, 1) := by decide +kernel
theorem dX8_commonOfTen_23 : decode cX8_commonOfTen 23 = .ok (.iinc 1 (-1), 3) := by decide +kernel
theorem dX8_commonOfTen_26 : decode cX8_commonOfTen 26 = .ok (.goto (-23), 3) := by decide +kernel
theorem dX8_commonOfTen_29 : decode cX8_commonOfTen 29 = .ok (.iconst 1, 1) := by decide +kernel
theorem dX8_commonOfTen_30 : decode cX8_commonOfTen 30 = .ok (.ireturn, 1) := by decide +kernel
theorem dX8_planSingles_0 : decode cX8_planSingles 0 = .ok (.iconst 0, 1) := by decide +kernel
theorem dX8_planSingles_1 : decode cX8_planSingles 1 = .ok (.istore_n 1, 1) := by decide +kernel
theorem dX8_planSingles_2 : decode cX8_planSingles 2 = .ok (.iconst 0, 1) := by decide +kernel
theorem dX8_planSingles_3 : decode cX8_planSingles 3 = .ok (.istore_n 2, 1) := by decide +kernel
theorem dX8_planSingles_4 : decode cX8_planSingles 4 = .ok (.iload_n 2, 1) := by decide +kernel
theorem dX8_planSingles_5 : decode cX8_planSingles 5 = .ok (.bipush 16, 2) := by decide +kernel
theorem dX8_planSingles_7 : decode cX8_planSingles 7 = .ok (.if_icmp .ge 38, 3) := by decide +kernel
theorem dX8_planSingles_10 : decode cX8_planSingles 10 = .ok (.iload_n 1, 1) := by decide +kernel
theorem dX8_planSingles_11 : decode cX8_planSingles 11 = .ok (.aload_n 0, 1) := by decide +kernel
theorem dX8_planSingles_12 : decode cX8_planSingles 12 = .ok (.getfield 45, 3) := by decide +kernel
theorem dX8_planSingles_15 : decode cX8_planSingles 15 = .ok (.aload_n 0, 1) := by decide +kernel
theorem dX8_planSingles_16 : decode cX8_planSingles 16 = .ok (.getfield 45, 3) := by decide +kernel
theorem dX8_planSingles_19 : decode cX8_planSingles 19 = .ok (.aload_n 0, 1) := by decide +kernel
theorem dX8_planSingles_20 : decode cX8_planSingles 20 = .ok (.getfield 12, 3) := by decide +kernel
theorem dX8_planSingles_23 : decode cX8_planSingles 23 = .ok (.getfield 88, 3) := by decide +kernel
theorem dX8_planSingles_26 : decode cX8_planSingles 26 = .ok (.iconst 1, 1) := by decide +kernel
theorem dX8_planSingles_27 : decode cX8_planSingles 27 = .ok (.iload_n 2, 1) := by decide +kernel
theorem dX8_planSingles_28 : decode cX8_planSingles 28 = .ok (.ishl, 1) := by decide +kernel
theorem dX8_planSingles_29 : decode cX8_planSingles 29 = .ok (.iand, 1) := by decide +kernel
theorem dX8_planSingles_30 : decode cX8_planSingles 30 = .ok (.iconst 0, 1) := by decide +kernel
theorem dX8_planSingles_31 : decode cX8_planSingles 31 = .ok (.invokevirtual 220, 3) := by decide +kernel
theorem dX8_planSingles_34 : decode cX8_planSingles 34 = .ok (.invokevirtual 223, 3) := by decide +kernel
theorem dX8_planSingles_37 : decode cX8_planSingles 37 = .ok (.iadd, 1) := by decide +kernel
theorem dX8_planSingles_38 : decode cX8_planSingles 38 = .ok (.istore_n 1, 1) := by decide +kernel
theorem dX8_planSingles_39 : decode cX8_planSingles 39 = .ok (.iinc 2 1, 3) := by decide +kernel
theorem dX8_planSingles_42 : decode cX8_planSingles 42 = .ok (.goto (-38), 3) := by decide +kernel
theorem dX8_planSingles_45 : decode cX8_planSingles 45 = .ok (.iconst 0, 1) := by decide +kernel
theorem dX8_planSingles_46 : decode cX8_planSingles 46 = .ok (.istore_n 2, 1) := by decide +kernel
theorem dX8_planSingles_47 : decode cX8_planSingles 47 = .ok (.iload_n 2, 1) := by decide +kernel
theorem dX8_planSingles_48 : decode cX8_planSingles 48 = .ok (.bipush 16, 2) := by decide +kernel
theorem dX8_planSingles_50 : decode cX8_planSingles 50 = .ok (.if_icmp .ge 38, 3) := by decide +kernel
theorem dX8_planSingles_53 : decode cX8_planSingles 53 = .ok (.iload_n 1, 1) := by decide +kernel
theorem dX8_planSingles_54 : decode cX8_planSingles 54 = .ok (.aload_n 0, 1) := by decide +kernel
theorem dX8_planSingles_55 : decode cX8_planSingles 55 = .ok (.getfield 45, 3) := by decide +kernel
theorem dX8_planSingles_58 : decode cX8_planSingles 58 = .ok (.aload_n 0, 1) := by decide +kernel
theorem dX8_planSingles_59 : decode cX8_planSingles 59 = .ok (.getfield 45, 3) := by decide +kernel
theorem dX8_planSingles_62 : decode cX8_planSingles 62 = .ok (.iconst 0, 1) := by decide +kernel
theorem dX8_planSingles_63 : decode cX8_planSingles 63 = .ok (.aload_n 0, 1) := by decide +kernel
theorem dX8_planSingles_64 : decode cX8_planSingles 64 = .ok (.getfield 12, 3) := by decide +kernel
theorem dX8_planSingles_67 : decode cX8_planSingles 67 = .ok (.getfield 72, 3) := by decide +kernel
theorem dX8_planSingles_70 : decode cX8_planSingles 70 = .ok (.iconst 1, 1) := by decide +kernel
theorem dX8_planSingles_71 : decode cX8_planSingles 71 = .ok (.iload_n 2, 1) := by decide +kernel
theorem dX8_planSingles_72 : decode cX8_planSingles 72 = .ok (.ishl, 1) := by decide +kernel
theorem dX8_planSingles_73 : decode cX8_planSingles 73 = .ok (.iand, 1) := by decide +kernel
theorem dX8_planSingles_74 : decode cX8_planSingles 74 = .ok (.invokevirtual 220, 3) := by decide +kernel
theorem dX8_planSingles_77 : decode cX8_planSingles 77 = .ok (.invokevirtual 223, 3) := by decide +kernel
theorem dX8_planSingles_80 : decode cX8_planSingles 80 = .ok (.iadd, 1) := by decide +kernel
theorem dX8_planSingles_81 : decode cX8_planSingles 81 = .ok (.istore_n 1, 1) := by decide +kernel
theorem dX8_planSingles_82 : decode cX8_planSingles 82 = .ok (.iinc 2 1, 3) := by decide +kernel
theorem dX8_planSingles_85 : decode cX8_planSingles 85 = .ok (.goto (-38), 3) := by decide +kernel
theorem dX8_planSingles_88 : decode cX8_planSingles 88 = .ok (.iload_n 1, 1) := by decide +kernel
theorem dX8_planSingles_89 : decode cX8_planSingles 89 = .ok (.ireturn, 1) := by decide +kernel
theorem dX8_doEvents_0 : decode cX8_doEvents 0 = .ok (.iconst 0, 1) := by decide +kernel
theorem dX8_doEvents_1 : decode cX8_doEvents 1 = .ok (.istore_n 1, 1) := by decide +kernel
theorem dX8_doEvents_2 : decode cX8_doEvents 2 = .ok (.iconst 0, 1) := by decide +kernel
theorem dX8_doEvents_3 : decode cX8_doEvents 3 = .ok (.istore_n 2, 1) := by decide +kernel
theorem dX8_doEvents_4 : decode cX8_doEvents 4 = .ok (.iconst 0, 1) := by decide +kernel
theorem dX8_doEvents_5 : decode cX8_doEvents 5 = .ok (.istore_n 3, 1) := by decide +kernel
theorem dX8_doEvents_6 : decode cX8_doEvents 6 = .ok (.iload_n 3, 1) := by decide +kernel
theorem dX8_doEvents_7 : decode cX8_doEvents 7 = .ok (.aload_n 0, 1) := by decide +kernel
theorem dX8_doEvents_8 : decode cX8_doEvents 8 = .ok (.getfield 32, 3) := by decide +kernel
theorem dX8_doEvents_11 : decode cX8_doEvents 11 = .ok (.getfield 235, 3) := by decide +kernel
theorem dX8_doEvents_14 : decode cX8_doEvents 14 = .ok (.if_icmp .ge 72, 3) := by decide +kernel
theorem dX8_doEvents_17 : decode cX8_doEvents 17 = .ok (.aload_n 0, 1) := by decide +kernel
theorem dX8_doEvents_18 : decode cX8_doEvents 18 = .ok (.getfield 32, 3) := by decide +kernel
theorem dX8_doEvents_21 : decode cX8_doEvents 21 = .ok (.getfield 310, 3) := by decide +kernel
theorem dX8_doEvents_24 : decode cX8_doEvents 24 = .ok (.iload_n 3, 1) := by decide +kernel
theorem dX8_doEvents_25 : decode cX8_doEvents 25 = .ok (.caload, 1) := by decide +kernel
theorem dX8_doEvents_26 : decode cX8_doEvents 26 = .ok (.istore 4, 2) := by decide +kernel
theorem dX8_doEvents_28 : decode cX8_doEvents 28 = .ok (.iload 4, 2) := by decide +kernel
theorem dX8_doEvents_30 : decode cX8_doEvents 30 = .ok (.bipush 43, 2) := by decide +kernel
theorem dX8_doEvents_32 : decode cX8_doEvents 32 = .ok (.if_icmp .eq 10, 3) := by decide +kernel
theorem dX8_doEvents_35 : decode cX8_doEvents 35 = .ok (.iload 4, 2) := by decide +kernel
theorem dX8_doEvents_37 : decode cX8_doEvents 37 = .ok (.bipush 45, 2) := by decide +kernel
theorem dX8_doEvents_39 : decode cX8_doEvents 39 = .ok (.if_icmp .ne 19, 3) := by decide +kernel
theorem dX8_doEvents_42 : decode cX8_doEvents 42 = .ok (.iload 4, 2) := by decide +kernel
theorem dX8_doEvents_44 : decode cX8_doEvents 44 = .ok (.bipush 43, 2) := by decide +kernel
theorem dX8_doEvents_46 : decode cX8_doEvents 46 = .ok (.if_icmp .ne 7, 3) := by decide +kernel
theorem dX8_doEvents_49 : decode cX8_doEvents 49 = .ok (.iconst 1, 1) := by decide +kernel
theorem dX8_doEvents_50 : decode cX8_doEvents 50 = .ok (.goto 4, 3) := by decide +kernel
theorem dX8_doEvents_53 : decode cX8_doEvents 53 = .ok (.iconst 0, 1) := by decide +kernel
theorem dX8_doEvents_54 : decode cX8_doEvents 54 = .ok (.istore_n 2, 1) := by decide +kernel
theorem dX8_doEvents_55 : decode cX8_doEvents 55 = .ok (.goto 25, 3) := by decide +kernel
theorem dX8_doEvents_58 : decode cX8_doEvents 58 = .ok (.iload 4, 2) := by decide +kernel
theorem dX8_doEvents_60 : decode cX8_doEvents 60 = .ok (.bipush 32, 2) := by decide +kernel
theorem dX8_doEvents_62 : decode cX8_doEvents 62 = .ok (.if_icmp .eq 18, 3) := by decide +kernel
theorem dX8_doEvents_65 : decode cX8_doEvents 65 = .ok (.aload_n 0, 1) := by decide +kernel
theorem dX8_doEvents_66 : decode cX8_doEvents 66 = .ok (.iload 4, 2) := by decide +kernel
theorem dX8_doEvents_68 : decode cX8_doEvents 68 = .ok (.iload_n 2, 1) := by decide +kernel
theorem dX8_doEvents_69 : decode cX8_doEvents 69 = .ok (.invokevirtual 314, 3) := by decide +kernel
theorem dX8_doEvents_72 : decode cX8_doEvents 72 = .ok (.ifCond .ne 5, 3) := by decide +kernel
theorem dX8_doEvents_75 : decode cX8_doEvents 75 = .ok (.iload_n 1, 1) := by decide +kernel
theorem dX8_doEvents_76 : decode cX8_doEvents 76 = .ok (.ireturn, 1) := by decide +kernel
theorem dX8_doEvents_77 : decode cX8_doEvents 77 = .ok (.iinc 1 1, 3) := by decide +kernel
theorem dX8_doEvents_80 : decode cX8_doEvents 80 = .ok (.iinc 3 1, 3) := by decide +kernel
theorem dX8_doEvents_83 : decode cX8_doEvents 83 = .ok (.goto (-77), 3) := by decide +kernel
theorem dX8_doEvents_86 : decode cX8_doEvents 86 = .ok (.iload_n 1, 1) := by decide +kernel
theorem dX8_doEvents_87 : decode cX8_doEvents 87 = .ok (.ireturn, 1) := by decide +kernel
theorem dX8_doEvent_0 : decode cX8_doEvent 0 = .ok (.iload_n 1, 1) := by decide +kernel
theorem dX8_doEvent_1 : decode cX8_doEvent 1 = .ok (.bipush 33, 2) := by decide +kernel
theorem dX8_doEvent_3 : decode cX8_doEvent 3 = .ok (.if_icmp .ne 11, 3) := by decide +kernel
theorem dX8_doEvent_6 : decode cX8_doEvent 6 = .ok (.aload_n 0, 1) := by decide +kernel
theorem dX8_doEvent_7 : decode cX8_doEvent 7 = .ok (.getfield 12, 3) := by decide +kernel
theorem dX8_doEvent_10 : decode cX8_doEvent 10 = .ok (.invokevirtual 318, 3) := by decide +kernel
theorem dX8_doEvent_13 : decode cX8_doEvent 13 = .ok (.ireturn, 1) := by decide +kernel
theorem dX8_doEvent_14 : decode cX8_doEvent 14 = .ok (.iload_n 1, 1) := by decide +kernel
theorem dX8_doEvent_15 : decode cX8_doEvent 15 = .ok (.invokestatic 322, 3) := by decide +kernel
theorem dX8_doEvent_18 : decode cX8_doEvent 18 = .ok (.istore_n 3, 1) := by decide +kernel
theorem dX8_doEvent_19 : decode cX8_doEvent 19 = .ok (.iload_n 3, 1) := by decide +kernel
theorem dX8_doEvent_20 : decode cX8_doEvent 20 = .ok (.invokestatic 57, 3) := by decide +kernel
theorem dX8_doEvent_23 : decode cX8_doEvent 23 = .ok (.ifCond .eq 5, 3) := by decide +kernel
theorem dX8_doEvent_26 : decode cX8_doEvent 26 = .ok (.iconst 0, 1) := by decide +kernel
theorem dX8_doEvent_27 : decode cX8_doEvent 27 = .ok (.ireturn, 1) := by decide +kernel
theorem dX8_doEvent_28 : decode cX8_doEvent 28 = .ok (.iload_n 2, 1) := by decide +kernel
theorem dX8_doEvent_29 : decode cX8_doEvent 29 = .ok (.ifCond .eq 14, 3) := by decide +kernel
theorem dX8_doEvent_32 : decode cX8_doEvent 32 = .ok (.aload_n 0, 1) := by decide +kernel
theorem dX8_doEvent_33 : decode cX8_doEvent 33 = .ok (.getfield 12, 3) := by decide +kernel
theorem dX8_doEvent_36 : decode cX8_doEvent 36 = .ok (.iload_n 3, 1) := by decide +kernel
theorem dX8_doEvent_37 : decode cX8_doEvent 37 = .ok (.invokevirtual 326, 3) := by decide +kernel
theorem dX8_doEvent_40 : decode cX8_doEvent 40 = .ok (.goto 11, 3) := by decide +kernel
theorem dX8_doEvent_43 : decode cX8_doEvent 43 = .ok (.aload_n 0, 1) := by decide +kernel
theorem dX8_doEvent_44 : decode cX8_doEvent 44 = .ok (.getfield 12, 3) := by decide +kernel
theorem dX8_doEvent_47 : decode cX8_doEvent 47 = .ok (.iload_n 3, 1) := by decide +kernel
theorem dX8_doEvent_48 : decode cX8_doEvent 48 = .ok (.invokevirtual 329, 3) := by decide +kernel
theorem dX8_doEvent_51 : decode cX8_doEvent 51 = .ok (.ireturn, 1) := by decide +kernel
theorem dX8_driftOnce_0 : decode cX8_driftOnce 0 = .ok (.aload_n 0, 1) := by decide +kernel
theorem dX8_driftOnce_1 : decode cX8_driftOnce 1 = .ok (.getfield 12, 3) := by decide +kernel
theorem dX8_driftOnce_4 : decode cX8_driftOnce 4 = .ok (.aload_n 0, 1) := by decide +kernel
theorem dX8_driftOnce_5 : decode cX8_driftOnce 5 = .ok (.getfield 12, 3) := by decide +kernel
theorem dX8_driftOnce_8 : decode cX8_driftOnce 8 = .ok (.getfield 254, 3) := by decide +kernel
theorem dX8_driftOnce_11 : decode cX8_driftOnce 11 = .ok (.ldc_w 332, 3) := by decide +kernel
theorem dX8_driftOnce_14 : decode cX8_driftOnce 14 = .ok (.imul, 1) := by decide +kernel
theorem dX8_driftOnce_15 : decode cX8_driftOnce 15 = .ok (.sipush 12345, 3) := by decide +kernel
theorem dX8_driftOnce_18 : decode cX8_driftOnce 18 = .ok (.iadd, 1) := by decide +kernel
theorem dX8_driftOnce_19 : decode cX8_driftOnce 19 = .ok (.ldc_w 333, 3) := by decide +kernel
theorem dX8_driftOnce_22 : decode cX8_driftOnce 22 = .ok (.iand, 1) := by decide +kernel
theorem dX8_driftOnce_23 : decode cX8_driftOnce 23 = .ok (.putfield 254, 3) := by decide +kernel
theorem dX8_driftOnce_26 : decode cX8_driftOnce 26 = .ok (.aload_n 0, 1) := by decide +kernel
theorem dX8_driftOnce_27 : decode cX8_driftOnce 27 = .ok (.getfield 12, 3) := by decide +kernel
theorem dX8_driftOnce_30 : decode cX8_driftOnce 30 = .ok (.getfield 254, 3) := by decide +kernel
theorem dX8_driftOnce_33 : decode cX8_driftOnce 33 = .ok (.bipush 16, 2) := by decide +kernel
theorem dX8_driftOnce_35 : decode cX8_driftOnce 35 = .ok (.iushr, 1) := by decide +kernel
theorem dX8_driftOnce_36 : decode cX8_driftOnce 36 = .ok (.istore_n 1, 1) := by decide +kernel
theorem dX8_driftOnce_37 : decode cX8_driftOnce 37 = .ok (.iload_n 1, 1) := by decide +kernel
theorem dX8_driftOnce_38 : decode cX8_driftOnce 38 = .ok (.bipush 16, 2) := by decide +kernel
theorem dX8_driftOnce_40 : decode cX8_driftOnce 40 = .ok (.idiv, 1) := by decide +kernel
theorem dX8_driftOnce_41 : decode cX8_driftOnce 41 = .ok (.bipush 16, 2) := by decide +kernel
theorem dX8_driftOnce_43 : decode cX8_driftOnce 43 = .ok (.irem, 1) := by decide +kernel
theorem dX8_driftOnce_44 : decode cX8_driftOnce 44 = .ok (.istore_n 2, 1) := by decide +kernel
theorem dX8_driftOnce_45 : decode cX8_driftOnce 45 = .ok (.iload_n 1, 1) := by decide +kernel
theorem dX8_driftOnce_46 : decode cX8_driftOnce 46 = .ok (.bipush 8, 2) := by decide +kernel
theorem dX8_driftOnce_48 : decode cX8_driftOnce 48 = .ok (.irem, 1) := by decide +kernel
theorem dX8_driftOnce_49 : decode cX8_driftOnce 49 = .ok (.tableswitch 111 4 7 #[31, 31, 42, 88], 31) := by decide +kernel
theorem dX8_driftOnce_80 : decode cX8_driftOnce 80 = .ok (.aload_n 0, 1) := by decide +kernel
theorem dX8_driftOnce_81 : decode cX8_driftOnce 81 = .ok (.getfield 12, 3) := by decide +kernel
theorem dX8_driftOnce_84 : decode cX8_driftOnce 84 = .ok (.invokevirtual 318, 3) := by decide +kernel
theorem dX8_driftOnce_87 : decode cX8_driftOnce 87 = .ok (.pop, 1) := by decide +kernel
theorem dX8_driftOnce_88 : decode cX8_driftOnce 88 = .ok (.goto 107, 3) := by decide +kernel
theorem dX8_driftOnce_91 : decode cX8_driftOnce 91 = .ok (.aload_n 0, 1) := by decide +kernel
theorem dX8_driftOnce_92 : decode cX8_driftOnce 92 = .ok (.getfield 12, 3) := by decide +kernel
theorem dX8_driftOnce_95 : decode cX8_driftOnce 95 = .ok (.iload_n 2, 1) := by decide +kernel
theorem dX8_driftOnce_96 : decode cX8_driftOnce 96 = .ok (.invokevirtual 98, 3) := by decide +kernel
theorem dX8_driftOnce_99 : decode cX8_driftOnce 99 = .ok (.ifCond .eq 15, 3) := by decide +kernel
theorem dX8_driftOnce_102 : decode cX8_driftOnce 102 = .ok (.aload_n 0, 1) := by decide +kernel
theorem dX8_driftOnce_103 : decode cX8_driftOnce 103 = .ok (.getfield 12, 3) := by decide +kernel
theorem dX8_driftOnce_106 : decode cX8_driftOnce 106 = .ok (.iload_n 2, 1) := by decide +kernel
theorem dX8_driftOnce_107 : decode cX8_driftOnce 107 = .ok (.invokevirtual 104, 3) := by decide +kernel
theorem dX8_driftOnce_110 : decode cX8_driftOnce 110 = .ok (.pop, 1) := by decide +kernel
theorem dX8_driftOnce_111 : decode cX8_driftOnce 111 = .ok (.goto 84, 3) := by decide +kernel
theorem dX8_driftOnce_114 : decode cX8_driftOnce 114 = .ok (.aload_n 0, 1) := by decide +kernel
theorem dX8_driftOnce_115 : decode cX8_driftOnce 115 = .ok (.getfield 12, 3) := by decide +kernel
theorem dX8_driftOnce_118 : decode cX8_driftOnce 118 = .ok (.iload_n 2, 1) := by decide +kernel
theorem dX8_driftOnce_119 : decode cX8_driftOnce 119 = .ok (.invokevirtual 101, 3) := by decide +kernel
theorem dX8_driftOnce_122 : decode cX8_driftOnce 122 = .ok (.ifCond .eq 73, 3) := by decide +kernel
theorem dX8_driftOnce_125 : decode cX8_driftOnce 125 = .ok (.aload_n 0, 1) := by decide +kernel
theorem dX8_driftOnce_126 : decode cX8_driftOnce 126 = .ok (.getfield 12, 3) := by decide +kernel
theorem dX8_driftOnce_129 : decode cX8_driftOnce 129 = .ok (.iload_n 2, 1) := by decide +kernel
theorem dX8_driftOnce_130 : decode cX8_driftOnce 130 = .ok (.invokevirtual 107, 3) := by decide +kernel
theorem dX8_driftOnce_133 : decode cX8_driftOnce 133 = .ok (.pop, 1) := by decide +kernel
theorem dX8_driftOnce_134 : decode cX8_driftOnce 134 = .ok (.goto 61, 3) := by decide +kernel
theorem dX8_driftOnce_137 : decode cX8_driftOnce 137 = .ok (.aload_n 0, 1) := by decide +kernel
theorem dX8_driftOnce_138 : decode cX8_driftOnce 138 = .ok (.getfield 12, 3) := by decide +kernel
theorem dX8_driftOnce_141 : decode cX8_driftOnce 141 = .ok (.iload_n 2, 1) := by decide +kernel
theorem dX8_driftOnce_142 : decode cX8_driftOnce 142 = .ok (.invokevirtual 114, 3) := by decide +kernel
theorem dX8_driftOnce_145 : decode cX8_driftOnce 145 = .ok (.ifCond .ne 50, 3) := by decide +kernel
theorem dX8_driftOnce_148 : decode cX8_driftOnce 148 = .ok (.aload_n 0, 1) := by decide +kernel
theorem dX8_driftOnce_149 : decode cX8_driftOnce 149 = .ok (.getfield 12, 3) := by decide +kernel
theorem dX8_driftOnce_152 : decode cX8_driftOnce 152 = .ok (.iload_n 2, 1) := by decide +kernel
theorem dX8_driftOnce_153 : decode cX8_driftOnce 153 = .ok (.invokevirtual 117, 3) := by decide +kernel
theorem dX8_driftOnce_156 : decode cX8_driftOnce 156 = .ok (.pop, 1) := by decide +kernel
theorem dX8_driftOnce_157 : decode cX8_driftOnce 157 = .ok (.goto 38, 3) := by decide +kernel
theorem dX8_driftOnce_160 : decode cX8_driftOnce 160 = .ok (.aload_n 0, 1) := by decide +kernel
theorem dX8_driftOnce_161 : decode cX8_driftOnce 161 = .ok (.getfield 12, 3) := by decide +kernel
theorem dX8_driftOnce_164 : decode cX8_driftOnce 164 = .ok (.getfield 132, 3) := by decide +kernel
theorem dX8_driftOnce_167 : decode cX8_driftOnce 167 = .ok (.iload_n 2, 1) := by decide +kernel
theorem dX8_driftOnce_168 : decode cX8_driftOnce 168 = .ok (.invokevirtual 135, 3) := by decide +kernel
theorem dX8_driftOnce_171 : decode cX8_driftOnce 171 = .ok (.ifCond .eq 15, 3) := by decide +kernel
theorem dX8_driftOnce_174 : decode cX8_driftOnce 174 = .ok (.aload_n 0, 1) := by decide +kernel
theorem dX8_driftOnce_175 : decode cX8_driftOnce 175 = .ok (.getfield 12, 3) := by decide +kernel
theorem dX8_driftOnce_178 : decode cX8_driftOnce 178 = .ok (.iload_n 2, 1) := by decide +kernel
theorem dX8_driftOnce_179 : decode cX8_driftOnce 179 = .ok (.invokevirtual 329, 3) := by decide +kernel
theorem dX8_driftOnce_182 : decode cX8_driftOnce 182 = .ok (.pop, 1) := by decide +kernel
theorem dX8_driftOnce_183 : decode cX8_driftOnce 183 = .ok (.goto 12, 3) := by decide +kernel
theorem dX8_driftOnce_186 : decode cX8_driftOnce 186 = .ok (.aload_n 0, 1) := by decide +kernel
theorem dX8_driftOnce_187 : decode cX8_driftOnce 187 = .ok (.getfield 12, 3) := by decide +kernel
theorem dX8_driftOnce_190 : decode cX8_driftOnce 190 = .ok (.iload_n 2, 1) := by decide +kernel
theorem dX8_driftOnce_191 : decode cX8_driftOnce 191 = .ok (.invokevirtual 326, 3) := by decide +kernel
theorem dX8_driftOnce_194 : decode cX8_driftOnce 194 = .ok (.pop, 1) := by decide +kernel
theorem dX8_driftOnce_195 : decode cX8_driftOnce 195 = .ok (.return_, 1) := by decide +kernel
theorem dX8_toldLetters_0 : decode cX8_toldLetters 0 = .ok (.iload_n 2, 1) := by decide +kernel
theorem dX8_toldLetters_1 : decode cX8_toldLetters 1 = .ok (.istore 4, 2) := by decide +kernel
theorem dX8_toldLetters_3 : decode cX8_toldLetters 3 = .ok (.iload 4, 2) := by decide +kernel
theorem dX8_toldLetters_5 : decode cX8_toldLetters 5 = .ok (.iload_n 2, 1) := by decide +kernel
theorem dX8_toldLetters_6 : decode cX8_toldLetters 6 = .ok (.iload_n 3, 1) := by decide +kernel
theorem dX8_toldLetters_7 : decode cX8_toldLetters 7 = .ok (.iadd, 1) := by decide +kernel
theorem dX8_toldLetters_8 : decode cX8_toldLetters 8 = .ok (.if_icmp .ge 44, 3) := by decide +kernel
theorem dX8_toldLetters_11 : decode cX8_toldLetters 11 = .ok (.aload_n 1, 1) := by decide +kernel
theorem dX8_toldLetters_12 : decode cX8_toldLetters 12 = .ok (.getfield 280, 3) := by decide +kernel
theorem dX8_toldLetters_15 : decode cX8_toldLetters 15 = .ok (.iload 4, 2) := by decide +kernel
theorem dX8_toldLetters_17 : decode cX8_toldLetters 17 = .ok (.laload, 1) := by decide +kernel
theorem dX8_toldLetters_18 : decode cX8_toldLetters 18 = .ok (.lstore 5, 2) := by decide +kernel
theorem dX8_toldLetters_20 : decode cX8_toldLetters 20 = .ok (.lload 5, 2) := by decide +kernel
theorem dX8_toldLetters_22 : decode cX8_toldLetters 22 = .ok (.lconst 0, 1) := by decide +kernel
theorem dX8_toldLetters_23 : decode cX8_toldLetters 23 = .ok (.lcmp, 1) := by decide +kernel
theorem dX8_toldLetters_24 : decode cX8_toldLetters 24 = .ok (.ifCond .lt 20, 3) := by decide +kernel
theorem dX8_toldLetters_27 : decode cX8_toldLetters 27 = .ok (.lload 5, 2) := by decide +kernel
theorem dX8_toldLetters_29 : decode cX8_toldLetters 29 = .ok (.aload_n 0, 1) := by decide +kernel
theorem dX8_toldLetters_30 : decode cX8_toldLetters 30 = .ok (.getfield 12, 3) := by decide +kernel
theorem dX8_toldLetters_33 : decode cX8_toldLetters 33 = .ok (.getfield 178, 3) := by decide +kernel
theorem dX8_toldLetters_36 : decode cX8_toldLetters 36 = .ok (.getfield 195, 3) := by decide +kernel
theorem dX8_toldLetters_39 : decode cX8_toldLetters 39 = .ok (.i2l, 1) := by decide +kernel
theorem dX8_toldLetters_40 : decode cX8_toldLetters 40 = .ok (.lcmp, 1) := by decide +kernel
theorem dX8_toldLetters_41 : decode cX8_toldLetters 41 = .ok (.ifCond .lt 5, 3) := by decide +kernel
theorem dX8_toldLetters_44 : decode cX8_toldLetters 44 = .ok (.iconst 0, 1) := by decide +kernel
theorem dX8_toldLetters_45 : decode cX8_toldLetters 45 = .ok (.ireturn, 1) := by decide +kernel
theorem dX8_toldLetters_46 : decode cX8_toldLetters 46 = .ok (.iinc 4 1, 3) := by decide +kernel
theorem dX8_toldLetters_49 : decode cX8_toldLetters 49 = .ok (.goto (-46), 3) := by decide +kernel
theorem dX8_toldLetters_52 : decode cX8_toldLetters 52 = .ok (.iconst 1, 1) := by decide +kernel
theorem dX8_toldLetters_53 : decode cX8_toldLetters 53 = .ok (.ireturn, 1) := by decide +kernel
theorem dX9_in_0 : decode cX9_in 0 = .ok (.lload_n 0, 1) := by decide +kernel
theorem dX9_in_1 : decode cX9_in 1 = .ok (.lload_n 2, 1) := by decide +kernel
theorem dX9_in_2 : decode cX9_in 2 = .ok (.lcmp, 1) := by decide +kernel
theorem dX9_in_3 : decode cX9_in 3 = .ok (.ifCond .lt 14, 3) := by decide +kernel
theorem dX9_in_6 : decode cX9_in 6 = .ok (.lload_n 0, 1) := by decide +kernel
theorem dX9_in_7 : decode cX9_in 7 = .ok (.lload 4, 2) := by decide +kernel
theorem dX9_in_9 : decode cX9_in 9 = .ok (.lcmp, 1) := by decide +kernel
theorem dX9_in_10 : decode cX9_in 10 = .ok (.ifCond .gt 7, 3) := by decide +kernel
theorem dX9_in_13 : decode cX9_in 13 = .ok (.iconst 1, 1) := by decide +kernel
theorem dX9_in_14 : decode cX9_in 14 = .ok (.goto 4, 3) := by decide +kernel
theorem dX9_in_17 : decode cX9_in 17 = .ok (.iconst 0, 1) := by decide +kernel
theorem dX9_in_18 : decode cX9_in 18 = .ok (.ireturn, 1) := by decide +kernel
theorem dX9_init_0 : decode cX9_init 0 = .ok (.aload_n 0, 1) := by decide +kernel
theorem dX9_init_1 : decode cX9_init 1 = .ok (.invokespecial 1, 3) := by decide +kernel
theorem dX9_init_4 : decode cX9_init 4 = .ok (.aload_n 0, 1) := by decide +kernel
theorem dX9_init_5 : decode cX9_init 5 = .ok (.sipush 752, 3) := by decide +kernel
theorem dX9_init_8 : decode cX9_init 8 = .ok (.newarray .int, 2) := by decide +kernel
theorem dX9_init_10 : decode cX9_init 10 = .ok (.putfield 7, 3) := by decide +kernel
theorem dX9_init_13 : decode cX9_init 13 = .ok (.aload_n 0, 1) := by decide +kernel
theorem dX9_init_14 : decode cX9_init 14 = .ok (.bipush 16, 2) := by decide +kernel
theorem dX9_init_16 : decode cX9_init 16 = .ok (.newarray .int, 2) := by decide +kernel
theorem dX9_init_18 : decode cX9_init 18 = .ok (.putfield 13, 3) := by decide +kernel
theorem dX9_init_21 : decode cX9_init 21 = .ok (.aload_n 0, 1) := by decide +kernel
theorem dX9_init_22 : decode cX9_init 22 = .ok (.bipush 32, 2) := by decide +kernel
theorem dX9_init_24 : decode cX9_init 24 = .ok (.newarray .boolean, 2) := by decide +kernel
theorem dX9_init_26 : decode cX9_init 26 = .ok (.putfield 16, 3) := by decide +kernel
theorem dX9_init_29 : decode cX9_init 29 = .ok (.aload_n 0, 1) := by decide +kernel
theorem dX9_init_30 : decode cX9_init 30 = .ok (.bipush 32, 2) := by decide +kernel
theorem dX9_init_32 : decode cX9_init 32 = .ok (.newarray .boolean, 2) := by decide +kernel
theorem dX9_init_34 : decode cX9_init 34 = .ok (.putfield 20, 3) := by decide +kernel
theorem dX9_init_37 : decode cX9_init 37 = .ok (.aload_n 0, 1) := by decide +kernel
theorem dX9_init_38 : decode cX9_init 38 = .ok (.sipush 230, 3) := by decide +kernel
theorem dX9_init_41 : decode cX9_init 41 = .ok (.newarray .boolean, 2) := by decide +kernel
theorem dX9_init_43 : decode cX9_init 43 = .ok (.putfield 23, 3) := by decide +kernel
theorem dX9_init_46 : decode cX9_init 46 = .ok (.aload_n 0, 1) := by decide +kernel
theorem dX9_init_47 : decode cX9_init 47 = .ok (.bipush 90, 2) := by decide +kernel
theorem dX9_init_49 : decode cX9_init 49 = .ok (.newarray .int, 2) := by decide +kernel
theorem dX9_init_51 : decode cX9_init 51 = .ok (.putfield 26, 3) := by decide +kernel
theorem dX9_init_54 : decode cX9_init 54 = .ok (.aload_n 0, 1) := by decide +kernel
theorem dX9_init_55 : decode cX9_init 55 = .ok (.sipush 4512, 3) := by decide +kernel
theorem dX9_init_58 : decode cX9_init 58 = .ok (.newarray .int, 2) := by decide +kernel
theorem dX9_init_60 : decode cX9_init 60 = .ok (.putfield 29, 3) := by decide +kernel
theorem dX9_init_63 : decode cX9_init 63 = .ok (.aload_n 0, 1) := by decide +kernel
theorem dX9_init_64 : decode cX9_init 64 = .ok (.sipush 752, 3) := by decide +kernel
theorem dX9_init_67 : decode cX9_init 67 = .ok (.newarray .int, 2) := by decide +kernel
theorem dX9_init_69 : decode cX9_init 69 = .ok (.putfield 32, 3) := by decide +kernel
theorem dX9_init_72 : decode cX9_init 72 = .ok (.aload_n 0, 1) := by decide +kernel
theorem dX9_init_73 : decode cX9_init 73 = .ok (.sipush 4512, 3) := by decide +kernel
theorem dX9_init_76 : decode cX9_init 76 = .ok (.newarray .int, 2) := by decide +kernel
theorem dX9_init_78 : decode cX9_init 78 = .ok (.putfield 35, 3) := by decide +kernel
theorem dX9_init_81 : decode cX9_init 81 = .ok (.aload_n 0, 1) := by decide +kernel
theorem dX9_init_82 : decode cX9_init 82 = .ok (.iconst (-1), 1) := by decide +kernel
theorem dX9_init_83 : decode cX9_init 83 = .ok (.putfield 38, 3) := by decide +kernel
theorem dX9_init_86 : decode cX9_init 86 = .ok (.aload_n 0, 1) := by decide +kernel
theorem dX9_init_87 : decode cX9_init 87 = .ok (.iconst 4, 1) := by decide +kernel
theorem dX9_init_88 : decode cX9_init 88 = .ok (.newarray .int, 2) := by decide +kernel
theorem dX9_init_90 : decode cX9_init 90 = .ok (.putfield 42, 3) := by decide +kernel
theorem dX9_init_93 : decode cX9_init 93 = .ok (.aload_n 0, 1) := by decide +kernel
theorem dX9_init_94 : decode cX9_init 94 = .ok (.iconst 4, 1) := by decide +kernel
theorem dX9_init_95 : decode cX9_init 95 = .ok (.newarray .int, 2) := by decide +kernel
theorem dX9_init_97 : decode cX9_init 97 = .ok (.putfield 45, 3) := by decide +kernel
theorem dX9_init_100 : decode cX9_init 100 = .ok (.aload_n 0, 1) := by decide +kernel
theorem dX9_init_101 : decode cX9_init 101 = .ok (.bipush 96, 2) := by decide +kernel
theorem dX9_init_103 : decode cX9_init 103 = .ok (.newarray .long, 2) := by decide +kernel
theorem dX9_init_105 : decode cX9_init 105 = .ok (.putfield 48, 3) := by decide +kernel
theorem dX9_init_108 : decode cX9_init 108 = .ok (.aload_n 0, 1) := by decide +kernel
theorem dX9_init_109 : decode cX9_init 109 = .ok (.bipush 24, 2) := by decide +kernel
theorem dX9_init_111 : decode cX9_init 111 = .ok (.newarray .long, 2) := by decide +kernel
theorem dX9_init_113 : decode cX9_init 113 = .ok (.putfield 52, 3) := by decide +kernel
theorem dX9_init_116 : decode cX9_init 116 = .ok (.aload_n 0, 1) := by decide +kernel
theorem dX9_init_117 : decode cX9_init 117 = .ok (.sipush 230, 3) := by decide +kernel
theorem dX9_init_120 : decode cX9_init 120 = .ok (.newarray .boolean, 2) := by decide +kernel
theorem dX9_init_122 : decode cX9_init 122 = .ok (.putfield 55, 3) := by decide +kernel
theorem dX9_init_125 : decode cX9_init 125 = .ok (.aload_n 0, 1) := by decide +kernel
theorem dX9_init_126 : decode cX9_init 126 = .ok (.getfield 7, 3) := by decide +kernel
theorem dX9_init_129 : decode cX9_init 129 = .ok (.iconst 3, 1) := by decide +kernel
theorem dX9_init_130 : decode cX9_init 130 = .ok (.iconst 1, 1) := by decide +kernel
theorem dX9_init_131 : decode cX9_init 131 = .ok (.iastore, 1) := by decide +kernel
theorem dX9_init_132 : decode cX9_init 132 = .ok (.iconst 0, 1) := by decide +kernel
theorem dX9_init_133 : decode cX9_init 133 = .ok (.istore_n 1, 1) := by decide +kernel
theorem dX9_init_134 : decode cX9_init 134 = .ok (.iload_n 1, 1) := by decide +kernel
theorem dX9_init_135 : decode cX9_init 135 = .ok (.iconst 4, 1) := by decide +kernel
theorem dX9_init_136 : decode cX9_init 136 = .ok (.if_icmp .ge 16, 3) := by decide +kernel
theorem dX9_init_139 : decode cX9_init 139 = .ok (.aload_n 0, 1) := by decide +kernel
theorem dX9_init_140 : decode cX9_init 140 = .ok (.getfield 42, 3) := by decide +kernel
theorem dX9_init_143 : decode cX9_init 143 = .ok (.iload_n 1, 1) := by decide +kernel
theorem dX9_init_144 : decode cX9_init 144 = .ok (.iconst (-1), 1) := by decide +kernel
theorem dX9_init_145 : decode cX9_init 145 = .ok (.iastore, 1) := by decide +kernel
theorem dX9_init_146 : decode cX9_init 146 = .ok (.iinc 1 1, 3) := by decide +kernel
theorem dX9_init_149 : decode cX9_init 149 = .ok (.goto (-15), 3) := by decide +kernel
theorem dX9_init_152 : decode cX9_init 152 = .ok (.return_, 1) := by decide +kernel
theorem dX9_has_0 : decode cX9_has 0 = .ok (.iload_n 0, 1) := by decide +kernel
theorem dX9_has_1 : decode cX9_has 1 = .ok (.iload_n 1, 1) := by decide +kernel
theorem dX9_has_2 : decode cX9_has 2 = .ok (.ishr, 1) := by decide +kernel
theorem dX9_has_3 : decode cX9_has 3 = .ok (.iconst 1, 1) := by decide +kernel
theorem dX9_has_4 : decode cX9_has 4 = .ok (.iand, 1) := by decide +kernel
theorem dX9_has_5 : decode cX9_has 5 = .ok (.iconst 1, 1) := by decide +kernel
theorem dX9_has_6 : decode cX9_has 6 = .ok (.if_icmp .ne 7, 3) := by decide +kernel
theorem dX9_has_9 : decode cX9_has 9 = .ok (.iconst 1, 1) := by decide +kernel
theorem dX9_has_10 : decode cX9_has 10 = .ok (.goto 4, 3) := by decide +kernel
theorem dX9_has_13 : decode cX9_has 13 = .ok (.iconst 0, 1) := by decide +kernel
theorem dX9_has_14 : decode cX9_has 14 = .ok (.ireturn, 1) := by decide +kernel
theorem dX9_bits_0 : decode cX9_bits 0 = .ok (.iconst 0, 1) := by decide +kernel
theorem dX9_bits_1 : decode cX9_bits 1 = .ok (.istore_n 1, 1) := by decide +kernel
theorem dX9_bits_2 : decode cX9_bits 2 = .ok (.iconst 0, 1) := by decide +kernel
theorem dX9_bits_3 : decode cX9_bits 3 = .ok (.istore_n 2, 1) := by decide +kernel
theorem dX9_bits_4 : decode cX9_bits 4 = .ok (.iload_n 2, 1) := by decide +kernel
theorem dX9_bits_5 : decode cX9_bits 5 = .ok (.bipush 16, 2) := by decide +kernel
theorem dX9_bits_7 : decode cX9_bits 7 = .ok (.if_icmp .ge 17, 3) := by decide +kernel
theorem dX9_bits_10 : decode cX9_bits 10 = .ok (.iload_n 1, 1) := by decide +kernel
theorem dX9_bits_11 : decode cX9_bits 11 = .ok (.iload_n 0, 1) := by decide +kernel
theorem dX9_bits_12 : decode cX9_bits 12 = .ok (.iload_n 2, 1) := by decide +kernel
theorem dX9_bits_13 : decode cX9_bits 13 = .ok (.ishr, 1) := by decide +kernel
theorem dX9_bits_14 : decode cX9_bits 14 = .ok (.iconst 1, 1) := by decide +kernel
theorem dX9_bits_15 : decode cX9_bits 15 = .ok (.iand, 1) := by decide +kernel
theorem dX9_bits_16 : decode cX9_bits 16 = .ok (.iadd, 1) := by decide +kernel
theorem dX9_bits_17 : decode cX9_bits 17 = .ok (.istore_n 1, 1) := by decide +kernel
theorem dX9_bits_18 : decode cX9_bits 18 = .ok (.iinc 2 1, 3) := by decide +kernel
theorem dX9_bits_21 : decode cX9_bits 21 = .ok (.goto (-17), 3) := by decide +kernel
theorem dX9_bits_24 : decode cX9_bits 24 = .ok (.iload_n 1, 1) := by decide +kernel
theorem dX9_bits_25 : decode cX9_bits 25 = .ok (.ireturn, 1) := by decide +kernel
theorem dX9_isMember_0 : decode cX9_isMember 0 = .ok (.iload_n 0, 1) := by decide +kernel
theorem dX9_isMember_1 : decode cX9_isMember 1 = .ok (.i2l, 1) := by decide +kernel
theorem dX9_isMember_2 : decode cX9_isMember 2 = .ok (.lconst 0, 1) := by decide +kernel
theorem dX9_isMember_3 : decode cX9_isMember 3 = .ok (.ldc2_w 58, 3) := by decide +kernel
theorem dX9_isMember_6 : decode cX9_isMember 6 = .ok (.invokestatic 60, 3) := by decide +kernel
theorem dX9_isMember_9 : decode cX9_isMember 9 = .ok (.ireturn, 1) := by decide +kernel
theorem dX9_of_0 : decode cX9_of 0 = .ok (.aload_n 0, 1) := by decide +kernel
theorem dX9_of_1 : decode cX9_of 1 = .ok (.getfield 7, 3) := by decide +kernel
theorem dX9_of_4 : decode cX9_of 4 = .ok (.iconst 4, 1) := by decide +kernel
theorem dX9_of_5 : decode cX9_of 5 = .ok (.bipush 6, 2) := by decide +kernel
theorem dX9_of_7 : decode cX9_of 7 = .ok (.iload_n 1, 1) := by decide +kernel
theorem dX9_of_8 : decode cX9_of 8 = .ok (.imul, 1) := by decide +kernel
theorem dX9_of_9 : decode cX9_of 9 = .ok (.iadd, 1) := by decide +kernel
theorem dX9_of_10 : decode cX9_of 10 = .ok (.iload_n 2, 1) := by decide +kernel
theorem dX9_of_11 : decode cX9_of 11 = .ok (.iadd, 1) := by decide +kernel
theorem dX9_of_12 : decode cX9_of 12 = .ok (.iaload, 1) := by decide +kernel
theorem dX9_of_13 : decode cX9_of 13 = .ok (.ireturn, 1) := by decide +kernel
theorem dX9_put_0 : decode cX9_put 0 = .ok (.aload_n 0, 1) := by decide +kernel
theorem dX9_put_1 : decode cX9_put 1 = .ok (.getfield 7, 3) := by decide +kernel
theorem dX9_put_4 : decode cX9_put 4 = .ok (.iconst 4, 1) := by decide +kernel
theorem dX9_put_5 : decode cX9_put 5 = .ok (.bipush 6, 2) := by decide +kernel
theorem dX9_put_7 : decode cX9_put 7 = .ok (.iload_n 1, 1) := by decide +kernel
theorem dX9_put_8 : decode cX9_put 8 = .ok (.imul, 1) := by decide +kernel
theorem dX9_put_9 : decode cX9_put 9 = .ok (.iadd, 1) := by decide +kernel
theorem dX9_put_10 : decode cX9_put 10 = .ok (.iload_n 2, 1) := by decide +kernel
theorem dX9_put_11 : decode cX9_put 11 = .ok (.iadd, 1) := by decide +kernel
theorem dX9_put_12 : decode cX9_put 12 = .ok (.iload_n 3, 1) := by decide +kernel
theorem dX9_put_13 : decode cX9_put 13 = .ok (.iastore, 1) := by decide +kernel
theorem dX9_put_14 : decode cX9_put 14 = .ok (.return_, 1) := by decide +kernel
theorem dX9_sits_0 : decode cX9_sits 0 = .ok (.aload_n 0, 1) := by decide +kernel
theorem dX9_sits_1 : decode cX9_sits 1 = .ok (.iload_n 1, 1) := by decide +kernel
theorem dX9_sits_2 : decode cX9_sits 2 = .ok (.iconst 0, 1) := by decide +kernel
theorem dX9_sits_3 : decode cX9_sits 3 = .ok (.invokevirtual 64, 3) := by decide +kernel
theorem dX9_sits_6 : decode cX9_sits 6 = .ok (.ifCond .le 7, 3) := by decide +kernel
theorem dX9_sits_9 : decode cX9_sits 9 = .ok (.iconst 1, 1) := by decide +kernel
theorem dX9_sits_10 : decode cX9_sits 10 = .ok (.goto 4, 3) := by decide +kernel
theorem dX9_sits_13 : decode cX9_sits 13 = .ok (.iconst 0, 1) := by decide +kernel
theorem dX9_sits_14 : decode cX9_sits 14 = .ok (.ireturn, 1) := by decide +kernel
theorem dX9_those_0 : decode cX9_those 0 = .ok (.iconst 0, 1) := by decide +kernel
theorem dX9_those_1 : decode cX9_those 1 = .ok (.istore_n 3, 1) := by decide +kernel
theorem dX9_those_2 : decode cX9_those 2 = .ok (.iconst 0, 1) := by decide +kernel
theorem dX9_those_3 : decode cX9_those 3 = .ok (.istore 4, 2) := by decide +kernel
theorem dX9_those_5 : decode cX9_those 5 = .ok (.iload 4, 2) := by decide +kernel
theorem dX9_those_7 : decode cX9_those 7 = .ok (.bipush 16, 2) := by decide +kernel
theorem dX9_those_9 : decode cX9_those 9 = .ok (.if_icmp .ge 56, 3) := by decide +kernel
theorem dX9_those_12 : decode cX9_those 12 = .ok (.iload_n 1, 1) := by decide +kernel
theorem dX9_those_13 : decode cX9_those 13 = .ok (.ifCond .ne 12, 3) := by decide +kernel
theorem dX9_those_16 : decode cX9_those 16 = .ok (.aload_n 0, 1) := by decide +kernel
theorem dX9_those_17 : decode cX9_those 17 = .ok (.iload 4, 2) := by decide +kernel
theorem dX9_those_19 : decode cX9_those 19 = .ok (.invokevirtual 68, 3) := by decide +kernel
theorem dX9_those_22 : decode cX9_those 22 = .ok (.goto 19, 3) := by decide +kernel
theorem dX9_those_25 : decode cX9_those 25 = .ok (.aload_n 0, 1) := by decide +kernel
theorem dX9_those_26 : decode cX9_those 26 = .ok (.iload 4, 2) := by decide +kernel
theorem dX9_those_28 : decode cX9_those 28 = .ok (.iload_n 1, 1) := by decide +kernel
theorem dX9_those_29 : decode cX9_those 29 = .ok (.invokevirtual 64, 3) := by decide +kernel
theorem dX9_those_32 : decode cX9_those 32 = .ok (.iload_n 2, 1) := by decide +kernel
theorem dX9_those_33 : decode cX9_those 33 = .ok (.if_icmp .ne 7, 3) := by decide +kernel
theorem dX9_those_36 : decode cX9_those 36 = .ok (.iconst 1, 1) := by decide +kernel
theorem dX9_those_37 : decode cX9_those 37 = .ok (.goto 4, 3) := by decide +kernel
theorem dX9_those_40 : decode cX9_those 40 = .ok (.iconst 0, 1) := by decide +kernel
theorem dX9_those_41 : decode cX9_those 41 = .ok (.istore 5, 2) := by decide +kernel
theorem dX9_those_43 : decode cX9_those 43 = .ok (.iload_n 3, 1) := by decide +kernel
theorem dX9_those_44 : decode cX9_those 44 = .ok (.iload 5, 2) := by decide +kernel
theorem dX9_those_46 : decode cX9_those 46 = .ok (.ifCond .eq 10, 3) := by decide +kernel
theorem dX9_those_49 : decode cX9_those 49 = .ok (.iconst 1, 1) := by decide +kernel
theorem dX9_those_50 : decode cX9_those 50 = .ok (.iload 4, 2) := by decide +kernel
theorem dX9_those_52 : decode cX9_those 52 = .ok (.ishl, 1) := by decide +kernel
theorem dX9_those_53 : decode cX9_those 53 = .ok (.goto 4, 3) := by decide +kernel
theorem dX9_those_56 : decode cX9_those 56 = .ok (.iconst 0, 1) := by decide +kernel
theorem dX9_those_57 : decode cX9_those 57 = .ok (.ior, 1) := by decide +kernel
theorem dX9_those_58 : decode cX9_those 58 = .ok (.istore_n 3, 1) := by decide +kernel
theorem dX9_those_59 : decode cX9_those 59 = .ok (.iinc 4 1, 3) := by decide +kernel
theorem dX9_those_62 : decode cX9_those 62 = .ok (.goto (-57), 3) := by decide +kernel
theorem dX9_those_65 : decode cX9_those 65 = .ok (.iload_n 3, 1) := by decide +kernel
theorem dX9_those_66 : decode cX9_those 66 = .ok (.ireturn, 1) := by decide +kernel
theorem dX9_nodeOf_0 : decode cX9_nodeOf 0 = .ok (.aload_n 0, 1) := by decide +kernel
theorem dX9_nodeOf_1 : decode cX9_nodeOf 1 = .ok (.getfield 7, 3) := by decide +kernel
theorem dX9_nodeOf_4 : decode cX9_nodeOf 4 = .ok (.bipush 100, 2) := by decide +kernel
theorem dX9_nodeOf_6 : decode cX9_nodeOf 6 = .ok (.iload_n 1, 1) := by decide +kernel
theorem dX9_nodeOf_7 : decode cX9_nodeOf 7 = .ok (.iadd, 1) := by decide +kernel
theorem dX9_nodeOf_8 : decode cX9_nodeOf 8 = .ok (.iaload, 1) := by decide +kernel
theorem dX9_nodeOf_9 : decode cX9_nodeOf 9 = .ok (.bipush 32, 2) := by decide +kernel
theorem dX9_nodeOf_11 : decode cX9_nodeOf 11 = .ok (.irem, 1) := by decide +kernel
theorem dX9_nodeOf_12 : decode cX9_nodeOf 12 = .ok (.ireturn, 1) := by decide +kernel
theorem dX9_batchOf_0 : decode cX9_batchOf 0 = .ok (.aload_n 0, 1) := by decide +kernel
theorem dX9_batchOf_1 : decode cX9_batchOf 1 = .ok (.getfield 7, 3) := by decide +kernel
theorem dX9_batchOf_4 : decode cX9_batchOf 4 = .ok (.bipush 100, 2) := by decide +kernel
theorem dX9_batchOf_6 : decode cX9_batchOf 6 = .ok (.iload_n 1, 1) := by decide +kernel
theorem dX9_batchOf_7 : decode cX9_batchOf 7 = .ok (.iadd, 1) := by decide +kernel
theorem dX9_batchOf_8 : decode cX9_batchOf 8 = .ok (.iaload, 1) := by decide +kernel
theorem dX9_batchOf_9 : decode cX9_batchOf 9 = .ok (.bipush 32, 2) := by decide +kernel
theorem dX9_batchOf_11 : decode cX9_batchOf 11 = .ok (.idiv, 1) := by decide +kernel
theorem dX9_batchOf_12 : decode cX9_batchOf 12 = .ok (.ireturn, 1) := by decide +kernel
theorem dX9_holds_0 : decode cX9_holds 0 = .ok (.aload_n 0, 1) := by decide +kernel
theorem dX9_holds_1 : decode cX9_holds 1 = .ok (.getfield 7, 3) := by decide +kernel
theorem dX9_holds_4 : decode cX9_holds 4 = .ok (.sipush 330, 3) := by decide +kernel
theorem dX9_holds_7 : decode cX9_holds 7 = .ok (.iload_n 2, 1) := by decide +kernel
theorem dX9_holds_8 : decode cX9_holds 8 = .ok (.iadd, 1) := by decide +kernel
theorem dX9_holds_9 : decode cX9_holds 9 = .ok (.iaload, 1) := by decide +kernel
theorem dX9_holds_10 : decode cX9_holds 10 = .ok (.iload_n 1, 1) := by decide +kernel
theorem dX9_holds_11 : decode cX9_holds 11 = .ok (.invokestatic 72, 3) := by decide +kernel
theorem dX9_holds_14 : decode cX9_holds 14 = .ok (.ireturn, 1) := by decide +kernel
theorem dX9_inOf_0 : decode cX9_inOf 0 = .ok (.aload_n 0, 1) := by decide +kernel
theorem dX9_inOf_1 : decode cX9_inOf 1 = .ok (.getfield 7, 3) := by decide +kernel
theorem dX9_inOf_4 : decode cX9_inOf 4 = .ok (.sipush 560, 3) := by decide +kernel
theorem dX9_inOf_7 : decode cX9_inOf 7 = .ok (.iload_n 1, 1) := by decide +kernel
theorem dX9_inOf_8 : decode cX9_inOf 8 = .ok (.iadd, 1) := by decide +kernel
theorem dX9_inOf_9 : decode cX9_inOf 9 = .ok (.iaload, 1) := by decide +kernel
theorem dX9_inOf_10 : decode cX9_inOf 10 = .ok (.sipush 256, 3) := by decide +kernel
theorem dX9_inOf_13 : decode cX9_inOf 13 = .ok (.irem, 1) := by decide +kernel
theorem dX9_inOf_14 : decode cX9_inOf 14 = .ok (.ireturn, 1) := by decide +kernel
theorem dX9_underOf_0 : decode cX9_underOf 0 = .ok (.aload_n 0, 1) := by decide +kernel
theorem dX9_underOf_1 : decode cX9_underOf 1 = .ok (.getfield 7, 3) := by decide +kernel
theorem dX9_underOf_4 : decode cX9_underOf 4 = .ok (.sipush 560, 3) := by decide +kernel
theorem dX9_underOf_7 : decode cX9_underOf 7 = .ok (.iload_n 1, 1) := by decide +kernel
theorem dX9_underOf_8 : decode cX9_underOf 8 = .ok (.iadd, 1) := by decide +kernel
theorem dX9_underOf_9 : decode cX9_underOf 9 = .ok (.iaload, 1) := by decide +kernel
theorem dX9_underOf_10 : decode cX9_underOf 10 = .ok (.sipush 256, 3) := by decide +kernel
theorem dX9_underOf_13 : decode cX9_underOf 13 = .ok (.idiv, 1) := by decide +kernel
theorem dX9_underOf_14 : decode cX9_underOf 14 = .ok (.sipush 256, 3) := by decide +kernel
theorem dX9_underOf_17 : decode cX9_underOf 17 = .ok (.irem, 1) := by decide +kernel
theorem dX9_underOf_18 : decode cX9_underOf 18 = .ok (.ireturn, 1) := by decide +kernel
theorem dX9_batchOfLetter_0 : decode cX9_batchOfLetter 0 = .ok (.aload_n 0, 1) := by decide +kernel
theorem dX9_batchOfLetter_1 : decode cX9_batchOfLetter 1 = .ok (.getfield 7, 3) := by decide +kernel
theorem dX9_batchOfLetter_4 : decode cX9_batchOfLetter 4 = .ok (.sipush 560, 3) := by decide +kernel
theorem dX9_batchOfLetter_7 : decode cX9_batchOfLetter 7 = .ok (.iload_n 1, 1) := by decide +kernel
theorem dX9_batchOfLetter_8 : decode cX9_batchOfLetter 8 = .ok (.iadd, 1) := by decide +kernel
theorem dX9_batchOfLetter_9 : decode cX9_batchOfLetter 9 = .ok (.iaload, 1) := by decide +kernel
theorem dX9_batchOfLetter_10 : decode cX9_batchOfLetter 10 = .ok (.ldc 76, 2) := by decide +kernel
theorem dX9_batchOfLetter_12 : decode cX9_batchOfLetter 12 = .ok (.idiv, 1) := by decide +kernel
theorem dX9_batchOfLetter_13 : decode cX9_batchOfLetter 13 = .ok (.iconst 1, 1) := by decide +kernel
theorem dX9_batchOfLetter_14 : decode cX9_batchOfLetter 14 = .ok (.isub, 1) := by decide +kernel
theorem dX9_batchOfLetter_15 : decode cX9_batchOfLetter 15 = .ok (.ireturn, 1) := by decide +kernel
theorem dX9_isBeneath_0 : decode cX9_isBeneath 0 = .ok (.iconst 0, 1) := by decide +kernel
theorem dX9_isBeneath_1 : decode cX9_isBeneath 1 = .ok (.istore_n 2, 1) := by decide +kernel
theorem dX9_isBeneath_2 : decode cX9_isBeneath 2 = .ok (.iload_n 0, 1) := by decide +kernel
theorem dX9_isBeneath_3 : decode cX9_isBeneath 3 = .ok (.istore_n 3, 1) := by decide +kernel
theorem dX9_isBeneath_4 : decode cX9_isBeneath 4 = .ok (.iload_n 3, 1) := by decide +kernel
theorem dX9_isBeneath_5 : decode cX9_isBeneath 5 = .ok (.ifCond .le 25, 3) := by decide +kernel
theorem dX9_isBeneath_8 : decode cX9_isBeneath 8 = .ok (.iload_n 2, 1) := by decide +kernel
theorem dX9_isBeneath_9 : decode cX9_isBeneath 9 = .ok (.ifCond .ne 8, 3) := by decide +kernel
theorem dX9_isBeneath_12 : decode cX9_isBeneath 12 = .ok (.iload_n 3, 1) := by decide +kernel
theorem dX9_isBeneath_13 : decode cX9_isBeneath 13 = .ok (.iload_n 1, 1) := by decide +kernel
theorem dX9_isBeneath_14 : decode cX9_isBeneath 14 = .ok (.if_icmp .ne 7, 3) := by decide +kernel
theorem dX9_isBeneath_17 : decode cX9_isBeneath 17 = .ok (.iconst 1, 1) := by decide +kernel
theorem dX9_isBeneath_18 : decode cX9_isBeneath 18 = .ok (.goto 4, 3) := by decide +kernel
theorem dX9_isBeneath_21 : decode cX9_isBeneath 21 = .ok (.iconst 0, 1) := by decide +kernel
theorem dX9_isBeneath_22 : decode cX9_isBeneath 22 = .ok (.istore_n 2, 1) := by decide +kernel
theorem dX9_isBeneath_23 : decode cX9_isBeneath 23 = .ok (.iload_n 3, 1) := by decide +kernel
theorem dX9_isBeneath_24 : decode cX9_isBeneath 24 = .ok (.iconst 2, 1) := by decide +kernel
theorem dX9_isBeneath_25 : decode cX9_isBeneath 25 = .ok (.idiv, 1) := by decide +kernel
theorem dX9_isBeneath_26 : decode cX9_isBeneath 26 = .ok (.istore_n 3, 1) := by decide +kernel
theorem dX9_isBeneath_27 : decode cX9_isBeneath 27 = .ok (.goto (-23), 3) := by decide +kernel
theorem dX9_isBeneath_30 : decode cX9_isBeneath 30 = .ok (.iload_n 2, 1) := by decide +kernel
theorem dX9_isBeneath_31 : decode cX9_isBeneath 31 = .ok (.ireturn, 1) := by decide +kernel
theorem dX9_beneath_0 : decode cX9_beneath 0 = .ok (.iconst 0, 1) := by decide +kernel
theorem dX9_beneath_1 : decode cX9_beneath 1 = .ok (.istore_n 2, 1) := by decide +kernel
theorem dX9_beneath_2 : decode cX9_beneath 2 = .ok (.iconst 0, 1) := by decide +kernel
theorem dX9_beneath_3 : decode cX9_beneath 3 = .ok (.istore_n 3, 1) := by decide +kernel
theorem dX9_beneath_4 : decode cX9_beneath 4 = .ok (.iload_n 3, 1) := by decide +kernel
theorem dX9_beneath_5 : decode cX9_beneath 5 = .ok (.bipush 16, 2) := by decide +kernel
theorem dX9_beneath_7 : decode cX9_beneath 7 = .ok (.if_icmp .ge 32, 3) := by decide +kernel
theorem dX9_beneath_10 : decode cX9_beneath 10 = .ok (.iload_n 2, 1) := by decide +kernel
theorem dX9_beneath_11 : decode cX9_beneath 11 = .ok (.aload_n 0, 1) := by decide +kernel
theorem dX9_beneath_12 : decode cX9_beneath 12 = .ok (.iload_n 3, 1) := by decide +kernel
theorem dX9_beneath_13 : decode cX9_beneath 13 = .ok (.iconst 0, 1) := by decide +kernel
theorem dX9_beneath_14 : decode cX9_beneath 14 = .ok (.invokevirtual 64, 3) := by decide +kernel
theorem dX9_beneath_17 : decode cX9_beneath 17 = .ok (.iload_n 1, 1) := by decide +kernel
theorem dX9_beneath_18 : decode cX9_beneath 18 = .ok (.invokestatic 77, 3) := by decide +kernel
theorem dX9_beneath_21 : decode cX9_beneath 21 = .ok (.ifCond .eq 9, 3) := by decide +kernel
theorem dX9_beneath_24 : decode cX9_beneath 24 = .ok (.iconst 1, 1) := by decide +kernel
theorem dX9_beneath_25 : decode cX9_beneath 25 = .ok (.iload_n 3, 1) := by decide +kernel
theorem dX9_beneath_26 : decode cX9_beneath 26 = .ok (.ishl, 1) := by decide +kernel
theorem dX9_beneath_27 : decode cX9_beneath 27 = .ok (.goto 4, 3) := by decide +kernel
theorem dX9_beneath_30 : decode cX9_beneath 30 = .ok (.iconst 0, 1) := by decide +kernel
theorem dX9_beneath_31 : decode cX9_beneath 31 = .ok (.ior, 1) := by decide +kernel
theorem dX9_beneath_32 : decode cX9_beneath 32 = .ok (.istore_n 2, 1) := by decide +kernel
theorem dX9_beneath_33 : decode cX9_beneath 33 = .ok (.iinc 3 1, 3) := by decide +kernel
theorem dX9_beneath_36 : decode cX9_beneath 36 = .ok (.goto (-32), 3) := by decide +kernel
theorem dX9_beneath_39 : decode cX9_beneath 39 = .ok (.iload_n 2, 1) := by decide +kernel
theorem dX9_beneath_40 : decode cX9_beneath 40 = .ok (.ireturn, 1) := by decide +kernel
theorem dX9_keyOf_0 : decode cX9_keyOf 0 = .ok (.bipush (-4), 2) := by decide +kernel
theorem dX9_keyOf_2 : decode cX9_keyOf 2 = .ok (.istore_n 2, 1) := by decide +kernel
theorem dX9_keyOf_3 : decode cX9_keyOf 3 = .ok (.iconst 0, 1) := by decide +kernel
theorem dX9_keyOf_4 : decode cX9_keyOf 4 = .ok (.istore_n 3, 1) := by decide +kernel
theorem dX9_keyOf_5 : decode cX9_keyOf 5 = .ok (.iload_n 3, 1) := by decide +kernel
theorem dX9_keyOf_6 : decode cX9_keyOf 6 = .ok (.aload_n 0, 1) := by decide +kernel
theorem dX9_keyOf_7 : decode cX9_keyOf 7 = .ok (.getfield 7, 3) := by decide +kernel
theorem dX9_keyOf_10 : decode cX9_keyOf 10 = .ok (.iconst 0, 1) := by decide +kernel
theorem dX9_keyOf_11 : decode cX9_keyOf 11 = .ok (.iaload, 1) := by decide +kernel
theorem dX9_keyOf_12 : decode cX9_keyOf 12 = .ok (.if_icmp .ge 24, 3) := by decide +kernel
theorem dX9_keyOf_15 : decode cX9_keyOf 15 = .ok (.aload_n 0, 1) := by decide +kernel
theorem dX9_keyOf_16 : decode cX9_keyOf 16 = .ok (.iload_n 3, 1) := by decide +kernel
theorem dX9_keyOf_17 : decode cX9_keyOf 17 = .ok (.invokevirtual 80, 3) := by decide +kernel
theorem dX9_keyOf_20 : decode cX9_keyOf 20 = .ok (.iload_n 1, 1) := by decide +kernel
theorem dX9_keyOf_21 : decode cX9_keyOf 21 = .ok (.if_icmp .ne 7, 3) := by decide +kernel
theorem dX9_keyOf_24 : decode cX9_keyOf 24 = .ok (.iload_n 3, 1) := by decide +kernel
theorem dX9_keyOf_25 : decode cX9_keyOf 25 = .ok (.goto 4, 3) := by decide +kernel
theorem dX9_keyOf_28 : decode cX9_keyOf 28 = .ok (.iload_n 2, 1) := by decide +kernel
theorem dX9_keyOf_29 : decode cX9_keyOf 29 = .ok (.istore_n 2, 1) := by decide +kernel
theorem dX9_keyOf_30 : decode cX9_keyOf 30 = .ok (.iinc 3 1, 3) := by decide +kernel
theorem dX9_keyOf_33 : decode cX9_keyOf 33 = .ok (.goto (-28), 3) := by decide +kernel
theorem dX9_keyOf_36 : decode cX9_keyOf 36 = .ok (.aload_n 0, 1) := by decide +kernel
theorem dX9_keyOf_37 : decode cX9_keyOf 37 = .ok (.iload_n 1, 1) := by decide +kernel
theorem dX9_keyOf_38 : decode cX9_keyOf 38 = .ok (.invokevirtual 84, 3) := by decide +kernel
theorem dX9_keyOf_41 : decode cX9_keyOf 41 = .ok (.ifCond .ne 8, 3) := by decide +kernel
theorem dX9_keyOf_44 : decode cX9_keyOf 44 = .ok (.bipush (-4), 2) := by decide +kernel
theorem dX9_keyOf_46 : decode cX9_keyOf 46 = .ok (.goto 4, 3) := by decide +kernel
theorem dX9_keyOf_49 : decode cX9_keyOf 49 = .ok (.iload_n 2, 1) := by decide +kernel
theorem dX9_keyOf_50 : decode cX9_keyOf 50 = .ok (.ireturn, 1) := by decide +kernel
theorem dX9_isFull_0 : decode cX9_isFull 0 = .ok (.aload_n 0, 1) := by decide +kernel
theorem dX9_isFull_1 : decode cX9_isFull 1 = .ok (.getfield 7, 3) := by decide +kernel
theorem dX9_isFull_4 : decode cX9_isFull 4 = .ok (.iconst 0, 1) := by decide +kernel
theorem dX9_isFull_5 : decode cX9_isFull 5 = .ok (.iaload, 1) := by decide +kernel
theorem dX9_isFull_6 : decode cX9_isFull 6 = .ok (.sipush 200, 3) := by decide +kernel
theorem dX9_isFull_9 : decode cX9_isFull 9 = .ok (.if_icmp .ge 15, 3) := by decide +kernel
theorem dX9_isFull_12 : decode cX9_isFull 12 = .ok (.aload_n 0, 1) := by decide +kernel
theorem dX9_isFull_13 : decode cX9_isFull 13 = .ok (.getfield 7, 3) := by decide +kernel
theorem dX9_isFull_16 : decode cX9_isFull 16 = .ok (.iconst 1, 1) := by decide +kernel
theorem dX9_isFull_17 : decode cX9_isFull 17 = .ok (.iaload, 1) := by decide +kernel
theorem dX9_isFull_18 : decode cX9_isFull 18 = .ok (.sipush 160, 3) := by decide +kernel
theorem dX9_isFull_21 : decode cX9_isFull 21 = .ok (.if_icmp .lt 7, 3) := by decide +kernel
theorem dX9_isFull_24 : decode cX9_isFull 24 = .ok (.iconst 1, 1) := by decide +kernel
theorem dX9_isFull_25 : decode cX9_isFull 25 = .ok (.goto 4, 3) := by decide +kernel
theorem dX9_isFull_28 : decode cX9_isFull 28 = .ok (.iconst 0, 1) := by decide +kernel
theorem dX9_isFull_29 : decode cX9_isFull 29 = .ok (.ireturn, 1) := by decide +kernel
theorem dX9_makes_0 : decode cX9_makes 0 = .ok (.aload_n 0, 1) := by decide +kernel
theorem dX9_makes_1 : decode cX9_makes 1 = .ok (.getfield 7, 3) := by decide +kernel
theorem dX9_makes_4 : decode cX9_makes 4 = .ok (.iconst 0, 1) := by decide +kernel
theorem dX9_makes_5 : decode cX9_makes 5 = .ok (.iaload, 1) := by decide +kernel
theorem dX9_makes_6 : decode cX9_makes 6 = .ok (.istore_n 2, 1) := by decide +kernel
theorem dX9_makes_7 : decode cX9_makes 7 = .ok (.aload_n 0, 1) := by decide +kernel
theorem dX9_makes_8 : decode cX9_makes 8 = .ok (.getfield 7, 3) := by decide +kernel
theorem dX9_makes_11 : decode cX9_makes 11 = .ok (.bipush 100, 2) := by decide +kernel
theorem dX9_makes_13 : decode cX9_makes 13 = .ok (.iload_n 2, 1) := by decide +kernel
theorem dX9_makes_14 : decode cX9_makes 14 = .ok (.iadd, 1) := by decide +kernel
theorem dX9_makes_15 : decode cX9_makes 15 = .ok (.iload_n 1, 1) := by decide +kernel
theorem dX9_makes_16 : decode cX9_makes 16 = .ok (.bipush 32, 2) := by decide +kernel
theorem dX9_makes_18 : decode cX9_makes 18 = .ok (.aload_n 0, 1) := by decide +kernel
theorem dX9_makes_19 : decode cX9_makes 19 = .ok (.getfield 7, 3) := by decide +kernel
theorem dX9_makes_22 : decode cX9_makes 22 = .ok (.iconst 2, 1) := by decide +kernel
theorem dX9_makes_23 : decode cX9_makes 23 = .ok (.iaload, 1) := by decide +kernel
theorem dX9_makes_24 : decode cX9_makes 24 = .ok (.imul, 1) := by decide +kernel
theorem dX9_makes_25 : decode cX9_makes 25 = .ok (.iadd, 1) := by decide +kernel
theorem dX9_makes_26 : decode cX9_makes 26 = .ok (.iastore, 1) := by decide +kernel
theorem dX9_makes_27 : decode cX9_makes 27 = .ok (.aload_n 0, 1) := by decide +kernel
theorem dX9_makes_28 : decode cX9_makes 28 = .ok (.getfield 7, 3) := by decide +kernel
theorem dX9_makes_31 : decode cX9_makes 31 = .ok (.sipush 330, 3) := by decide +kernel
theorem dX9_makes_34 : decode cX9_makes 34 = .ok (.iload_n 2, 1) := by decide +kernel
theorem dX9_makes_35 : decode cX9_makes 35 = .ok (.iadd, 1) := by decide +kernel
theorem dX9_makes_36 : decode cX9_makes 36 = .ok (.iconst 0, 1) := by decide +kernel
theorem dX9_makes_37 : decode cX9_makes 37 = .ok (.iastore, 1) := by decide +kernel
theorem dX9_makes_38 : decode cX9_makes 38 = .ok (.aload_n 0, 1) := by decide +kernel
theorem dX9_makes_39 : decode cX9_makes 39 = .ok (.getfield 7, 3) := by decide +kernel
theorem dX9_makes_42 : decode cX9_makes 42 = .ok (.iconst 0, 1) := by decide +kernel
theorem dX9_makes_43 : decode cX9_makes 43 = .ok (.dup2, 1) := by decide +kernel
theorem dX9_makes_44 : decode cX9_makes 44 = .ok (.iaload, 1) := by decide +kernel
theorem dX9_makes_45 : decode cX9_makes 45 = .ok (.iconst 1, 1) := by decide +kernel
theorem dX9_makes_46 : decode cX9_makes 46 = .ok (.iadd, 1) := by decide +kernel
theorem dX9_makes_47 : decode cX9_makes 47 = .ok (.iastore, 1) := by decide +kernel
theorem dX9_makes_48 : decode cX9_makes 48 = .ok (.iload_n 2, 1) := by decide +kernel
theorem dX9_makes_49 : decode cX9_makes 49 = .ok (.ireturn, 1) := by decide +kernel
theorem dX9_writes_0 : decode cX9_writes 0 = .ok (.aload_n 0, 1) := by decide +kernel
theorem dX9_writes_1 : decode cX9_writes 1 = .ok (.getfield 7, 3) := by decide +kernel
theorem dX9_writes_4 : decode cX9_writes 4 = .ok (.sipush 560, 3) := by decide +kernel
theorem dX9_writes_7 : decode cX9_writes 7 = .ok (.aload_n 0, 1) := by decide +kernel
theorem dX9_writes_8 : decode cX9_writes 8 = .ok (.getfield 7, 3) := by decide +kernel
theorem dX9_writes_11 : decode cX9_writes 11 = .ok (.iconst 1, 1) := by decide +kernel
theorem dX9_writes_12 : decode cX9_writes 12 = .ok (.iaload, 1) := by decide +kernel
theorem dX9_writes_13 : decode cX9_writes 13 = .ok (.iadd, 1) := by decide +kernel
theorem dX9_writes_14 : decode cX9_writes 14 = .ok (.iload_n 1, 1) := by decide +kernel
theorem dX9_writes_15 : decode cX9_writes 15 = .ok (.sipush 256, 3) := by decide +kernel
theorem dX9_writes_18 : decode cX9_writes 18 = .ok (.iload_n 2, 1) := by decide +kernel
theorem dX9_writes_19 : decode cX9_writes 19 = .ok (.imul, 1) := by decide +kernel
theorem dX9_writes_20 : decode cX9_writes 20 = .ok (.iadd, 1) := by decide +kernel
theorem dX9_writes_21 : decode cX9_writes 21 = .ok (.ldc 76, 2) := by decide +kernel
theorem dX9_writes_23 : decode cX9_writes 23 = .ok (.iload_n 3, 1) := by decide +kernel
theorem dX9_writes_24 : decode cX9_writes 24 = .ok (.iconst 1, 1) := by decide +kernel
theorem dX9_writes_25 : decode cX9_writes 25 = .ok (.iadd, 1) := by decide +kernel
theorem dX9_writes_26 : decode cX9_writes 26 = .ok (.imul, 1) := by decide +kernel
theorem dX9_writes_27 : decode cX9_writes 27 = .ok (.iadd, 1) := by decide +kernel
theorem dX9_writes_28 : decode cX9_writes 28 = .ok (.iastore, 1) := by decide +kernel
theorem dX9_writes_29 : decode cX9_writes 29 = .ok (.aload_n 0, 1) := by decide +kernel
theorem dX9_writes_30 : decode cX9_writes 30 = .ok (.getfield 7, 3) := by decide +kernel
theorem dX9_writes_33 : decode cX9_writes 33 = .ok (.iconst 1, 1) := by decide +kernel
theorem dX9_writes_34 : decode cX9_writes 34 = .ok (.dup2, 1) := by decide +kernel
theorem dX9_writes_35 : decode cX9_writes 35 = .ok (.iaload, 1) := by decide +kernel
theorem dX9_writes_36 : decode cX9_writes 36 = .ok (.iconst 1, 1) := by decide +kernel
theorem dX9_writes_37 : decode cX9_writes 37 = .ok (.iadd, 1) := by decide +kernel
theorem dX9_writes_38 : decode cX9_writes 38 = .ok (.iastore, 1) := by decide +kernel
theorem dX9_writes_39 : decode cX9_writes 39 = .ok (.return_, 1) := by decide +kernel
theorem dX9_takesSeats_0 : decode cX9_takesSeats 0 = .ok (.iconst 0, 1) := by decide +kernel
theorem dX9_takesSeats_1 : decode cX9_takesSeats 1 = .ok (.istore_n 1, 1) := by decide +kernel
theorem dX9_takesSeats_2 : decode cX9_takesSeats 2 = .ok (.iload_n 1, 1) := by decide +kernel
theorem dX9_takesSeats_3 : decode cX9_takesSeats 3 = .ok (.bipush 16, 2) := by decide +kernel
theorem dX9_takesSeats_5 : decode cX9_takesSeats 5 = .ok (.if_icmp .ge 21, 3) := by decide +kernel
theorem dX9_takesSeats_8 : decode cX9_takesSeats 8 = .ok (.aload_n 0, 1) := by decide +kernel
theorem dX9_takesSeats_9 : decode cX9_takesSeats 9 = .ok (.getfield 13, 3) := by decide +kernel
theorem dX9_takesSeats_12 : decode cX9_takesSeats 12 = .ok (.iload_n 1, 1) := by decide +kernel
theorem dX9_takesSeats_13 : decode cX9_takesSeats 13 = .ok (.aload_n 0, 1) := by decide +kernel
theorem dX9_takesSeats_14 : decode cX9_takesSeats 14 = .ok (.iload_n 1, 1) := by decide +kernel
theorem dX9_takesSeats_15 : decode cX9_takesSeats 15 = .ok (.iconst 0, 1) := by decide +kernel
theorem dX9_takesSeats_16 : decode cX9_takesSeats 16 = .ok (.invokevirtual 64, 3) := by decide +kernel
theorem dX9_takesSeats_19 : decode cX9_takesSeats 19 = .ok (.iastore, 1) := by decide +kernel
theorem dX9_takesSeats_20 : decode cX9_takesSeats 20 = .ok (.iinc 1 1, 3) := by decide +kernel
theorem dX9_takesSeats_23 : decode cX9_takesSeats 23 = .ok (.goto (-21), 3) := by decide +kernel
theorem dX9_takesSeats_26 : decode cX9_takesSeats 26 = .ok (.return_, 1) := by decide +kernel
theorem dX9_seated_0 : decode cX9_seated 0 = .ok (.iconst 0, 1) := by decide +kernel
theorem dX9_seated_1 : decode cX9_seated 1 = .ok (.istore_n 2, 1) := by decide +kernel
theorem dX9_seated_2 : decode cX9_seated 2 = .ok (.iconst 0, 1) := by decide +kernel
theorem dX9_seated_3 : decode cX9_seated 3 = .ok (.istore_n 3, 1) := by decide +kernel
theorem dX9_seated_4 : decode cX9_seated 4 = .ok (.iload_n 3, 1) := by decide +kernel
theorem dX9_seated_5 : decode cX9_seated 5 = .ok (.bipush 16, 2) := by decide +kernel
theorem dX9_seated_7 : decode cX9_seated 7 = .ok (.if_icmp .ge 30, 3) := by decide +kernel
theorem dX9_seated_10 : decode cX9_seated 10 = .ok (.iload_n 2, 1) := by decide +kernel
theorem dX9_seated_11 : decode cX9_seated 11 = .ok (.aload_n 0, 1) := by decide +kernel
theorem dX9_seated_12 : decode cX9_seated 12 = .ok (.getfield 13, 3) := by decide +kernel
theorem dX9_seated_15 : decode cX9_seated 15 = .ok (.iload_n 3, 1) := by decide +kernel
theorem dX9_seated_16 : decode cX9_seated 16 = .ok (.iaload, 1) := by decide +kernel
theorem dX9_seated_17 : decode cX9_seated 17 = .ok (.iload_n 1, 1) := by decide +kernel
theorem dX9_seated_18 : decode cX9_seated 18 = .ok (.invokestatic 77, 3) := by decide +kernel
theorem dX9_seated_21 : decode cX9_seated 21 = .ok (.ifCond .eq 7, 3) := by decide +kernel
theorem dX9_seated_24 : decode cX9_seated 24 = .ok (.iconst 1, 1) := by decide +kernel
theorem dX9_seated_25 : decode cX9_seated 25 = .ok (.goto 4, 3) := by decide +kernel
theorem dX9_seated_28 : decode cX9_seated 28 = .ok (.iconst 0, 1) := by decide +kernel
theorem dX9_seated_29 : decode cX9_seated 29 = .ok (.iadd, 1) := by decide +kernel
theorem dX9_seated_30 : decode cX9_seated 30 = .ok (.istore_n 2, 1) := by decide +kernel
theorem dX9_seated_31 : decode cX9_seated 31 = .ok (.iinc 3 1, 3) := by decide +kernel
theorem dX9_seated_34 : decode cX9_seated 34 = .ok (.goto (-30), 3) := by decide +kernel
theorem dX9_seated_37 : decode cX9_seated 37 = .ok (.iload_n 2, 1) := by decide +kernel
theorem dX9_seated_38 : decode cX9_seated 38 = .ok (.ireturn, 1) := by decide +kernel
theorem dX9_marks_0 : decode cX9_marks 0 = .ok (.iload_n 1, 1) := by decide +kernel
theorem dX9_marks_1 : decode cX9_marks 1 = .ok (.iconst 2, 1) := by decide +kernel
theorem dX9_marks_2 : decode cX9_marks 2 = .ok (.idiv, 1) := by decide +kernel
theorem dX9_marks_3 : decode cX9_marks 3 = .ok (.istore_n 2, 1) := by decide +kernel
theorem dX9_marks_4 : decode cX9_marks 4 = .ok (.iload_n 2, 1) := by decide +kernel
theorem dX9_marks_5 : decode cX9_marks 5 = .ok (.ifCond .le 17, 3) := by decide +kernel
theorem dX9_marks_8 : decode cX9_marks 8 = .ok (.aload_n 0, 1) := by decide +kernel
theorem dX9_marks_9 : decode cX9_marks 9 = .ok (.getfield 16, 3) := by decide +kernel
theorem dX9_marks_12 : decode cX9_marks 12 = .ok (.iload_n 2, 1) := by decide +kernel
theorem dX9_marks_13 : decode cX9_marks 13 = .ok (.iconst 1, 1) := by decide +kernel
theorem dX9_marks_14 : decode cX9_marks 14 = .ok (.bastore, 1) := by decide +kernel
theorem dX9_marks_15 : decode cX9_marks 15 = .ok (.iload_n 2, 1) := by decide +kernel
theorem dX9_marks_16 : decode cX9_marks 16 = .ok (.iconst 2, 1) := by decide +kernel
theorem dX9_marks_17 : decode cX9_marks 17 = .ok (.idiv, 1) := by decide +kernel
theorem dX9_marks_18 : decode cX9_marks 18 = .ok (.istore_n 2, 1) := by decide +kernel
theorem dX9_marks_19 : decode cX9_marks 19 = .ok (.goto (-15), 3) := by decide +kernel
theorem dX9_marks_22 : decode cX9_marks 22 = .ok (.return_, 1) := by decide +kernel
theorem dX9_leafFor_0 : decode cX9_leafFor 0 = .ok (.bipush 16, 2) := by decide +kernel
theorem dX9_leafFor_2 : decode cX9_leafFor 2 = .ok (.istore_n 1, 1) := by decide +kernel
theorem dX9_leafFor_3 : decode cX9_leafFor 3 = .ok (.iload_n 1, 1) := by decide +kernel
theorem dX9_leafFor_4 : decode cX9_leafFor 4 = .ok (.bipush 32, 2) := by decide +kernel
theorem dX9_leafFor_6 : decode cX9_leafFor 6 = .ok (.if_icmp .ge 28, 3) := by decide +kernel
theorem dX9_leafFor_9 : decode cX9_leafFor 9 = .ok (.aload_n 0, 1) := by decide +kernel
theorem dX9_leafFor_10 : decode cX9_leafFor 10 = .ok (.getfield 20, 3) := by decide +kernel
theorem dX9_leafFor_13 : decode cX9_leafFor 13 = .ok (.iload_n 1, 1) := by decide +kernel
theorem dX9_leafFor_14 : decode cX9_leafFor 14 = .ok (.baload, 1) := by decide +kernel
theorem dX9_leafFor_15 : decode cX9_leafFor 15 = .ok (.ifCond .eq 13, 3) := by decide +kernel
theorem dX9_leafFor_18 : decode cX9_leafFor 18 = .ok (.aload_n 0, 1) := by decide +kernel
theorem dX9_leafFor_19 : decode cX9_leafFor 19 = .ok (.iload_n 1, 1) := by decide +kernel
theorem dX9_leafFor_20 : decode cX9_leafFor 20 = .ok (.invokevirtual 87, 3) := by decide +kernel
theorem dX9_leafFor_23 : decode cX9_leafFor 23 = .ok (.ifCond .ne 5, 3) := by decide +kernel
theorem dX9_leafFor_26 : decode cX9_leafFor 26 = .ok (.iload_n 1, 1) := by decide +kernel
theorem dX9_leafFor_27 : decode cX9_leafFor 27 = .ok (.ireturn, 1) := by decide +kernel
theorem dX9_leafFor_28 : decode cX9_leafFor 28 = .ok (.iinc 1 1, 3) := by decide +kernel
theorem dX9_leafFor_31 : decode cX9_leafFor 31 = .ok (.goto (-28), 3) := by decide +kernel
theorem dX9_leafFor_34 : decode cX9_leafFor 34 = .ok (.iconst 1, 1) := by decide +kernel
theorem dX9_leafFor_35 : decode cX9_leafFor 35 = .ok (.istore_n 1, 1) := by decide +kernel
theorem dX9_leafFor_36 : decode cX9_leafFor 36 = .ok (.iload_n 1, 1) := by decide +kernel
theorem dX9_leafFor_37 : decode cX9_leafFor 37 = .ok (.bipush 16, 2) := by decide +kernel
theorem dX9_leafFor_39 : decode cX9_leafFor 39 = .ok (.if_icmp .ge 37, 3) := by decide +kernel
theorem dX9_leafFor_42 : decode cX9_leafFor 42 = .ok (.aload_n 0, 1) := by decide +kernel
theorem dX9_leafFor_43 : decode cX9_leafFor 43 = .ok (.iconst 2, 1) := by decide +kernel
theorem dX9_leafFor_44 : decode cX9_leafFor 44 = .ok (.iload_n 1, 1) := by decide +kernel
theorem dX9_leafFor_45 : decode cX9_leafFor 45 = .ok (.imul, 1) := by decide +kernel
theorem dX9_leafFor_46 : decode cX9_leafFor 46 = .ok (.iconst 1, 1) := by decide +kernel
theorem dX9_leafFor_47 : decode cX9_leafFor 47 = .ok (.iadd, 1) := by decide +kernel
theorem dX9_leafFor_48 : decode cX9_leafFor 48 = .ok (.invokevirtual 87, 3) := by decide +kernel
theorem dX9_leafFor_51 : decode cX9_leafFor 51 = .ok (.aload_n 0, 1) := by decide +kernel
theorem dX9_leafFor_52 : decode cX9_leafFor 52 = .ok (.iconst 2, 1) := by decide +kernel
theorem dX9_leafFor_53 : decode cX9_leafFor 53 = .ok (.iload_n 1, 1) := by decide +kernel
theorem dX9_leafFor_54 : decode cX9_leafFor 54 = .ok (.imul, 1) := by decide +kernel
theorem dX9_leafFor_55 : decode cX9_leafFor 55 = .ok (.invokevirtual 87, 3) := by decide +kernel
theorem dX9_leafFor_58 : decode cX9_leafFor 58 = .ok (.if_icmp .ge 11, 3) := by decide +kernel
theorem dX9_leafFor_61 : decode cX9_leafFor 61 = .ok (.iconst 2, 1) := by decide +kernel
theorem dX9_leafFor_62 : decode cX9_leafFor 62 = .ok (.iload_n 1, 1) := by decide +kernel
theorem dX9_leafFor_63 : decode cX9_leafFor 63 = .ok (.imul, 1) := by decide +kernel
theorem dX9_leafFor_64 : decode cX9_leafFor 64 = .ok (.iconst 1, 1) := by decide +kernel
theorem dX9_leafFor_65 : decode cX9_leafFor 65 = .ok (.iadd, 1) := by decide +kernel
theorem dX9_leafFor_66 : decode cX9_leafFor 66 = .ok (.goto 6, 3) := by decide +kernel
theorem dX9_leafFor_69 : decode cX9_leafFor 69 = .ok (.iconst 2, 1) := by decide +kernel
theorem dX9_leafFor_70 : decode cX9_leafFor 70 = .ok (.iload_n 1, 1) := by decide +kernel
theorem dX9_leafFor_71 : decode cX9_leafFor 71 = .ok (.imul, 1) := by decide +kernel
theorem dX9_leafFor_72 : decode cX9_leafFor 72 = .ok (.istore_n 1, 1) := by decide +kernel
theorem dX9_leafFor_73 : decode cX9_leafFor 73 = .ok (.goto (-37), 3) := by decide +kernel
theorem dX9_leafFor_76 : decode cX9_leafFor 76 = .ok (.iload_n 1, 1) := by decide +kernel
theorem dX9_leafFor_77 : decode cX9_leafFor 77 = .ok (.ireturn, 1) := by decide +kernel
theorem dX9_shifts_0 : decode cX9_shifts 0 = .ok (.iconst 0, 1) := by decide +kernel
theorem dX9_shifts_1 : decode cX9_shifts 1 = .ok (.istore_n 3, 1) := by decide +kernel
theorem dX9_shifts_2 : decode cX9_shifts 2 = .ok (.iload_n 3, 1) := by decide +kernel
theorem dX9_shifts_3 : decode cX9_shifts 3 = .ok (.bipush 32, 2) := by decide +kernel
theorem dX9_shifts_5 : decode cX9_shifts 5 = .ok (.if_icmp .ge 23, 3) := by decide +kernel
theorem dX9_shifts_8 : decode cX9_shifts 8 = .ok (.aload_n 0, 1) := by decide +kernel
theorem dX9_shifts_9 : decode cX9_shifts 9 = .ok (.getfield 16, 3) := by decide +kernel
theorem dX9_shifts_12 : decode cX9_shifts 12 = .ok (.iload_n 3, 1) := by decide +kernel
theorem dX9_shifts_13 : decode cX9_shifts 13 = .ok (.iconst 0, 1) := by decide +kernel
theorem dX9_shifts_14 : decode cX9_shifts 14 = .ok (.bastore, 1) := by decide +kernel
theorem dX9_shifts_15 : decode cX9_shifts 15 = .ok (.aload_n 0, 1) := by decide +kernel
theorem dX9_shifts_16 : decode cX9_shifts 16 = .ok (.getfield 20, 3) := by decide +kernel
theorem dX9_shifts_19 : decode cX9_shifts 19 = .ok (.iload_n 3, 1) := by decide +kernel
theorem dX9_shifts_20 : decode cX9_shifts 20 = .ok (.iconst 0, 1) := by decide +kernel
theorem dX9_shifts_21 : decode cX9_shifts 21 = .ok (.bastore, 1) := by decide +kernel
theorem dX9_shifts_22 : decode cX9_shifts 22 = .ok (.iinc 3 1, 3) := by decide +kernel
theorem dX9_shifts_25 : decode cX9_shifts 25 = .ok (.goto (-23), 3) := by decide +kernel
theorem dX9_shifts_28 : decode cX9_shifts 28 = .ok (.iconst 0, 1) := by decide +kernel
theorem dX9_shifts_29 : decode cX9_shifts 29 = .ok (.istore_n 3, 1) := by decide +kernel
theorem dX9_shifts_30 : decode cX9_shifts 30 = .ok (.iload_n 3, 1) := by decide +kernel
theorem dX9_shifts_31 : decode cX9_shifts 31 = .ok (.bipush 16, 2) := by decide +kernel
theorem dX9_shifts_33 : decode cX9_shifts 33 = .ok (.if_icmp .ge 46, 3) := by decide +kernel
theorem dX9_shifts_36 : decode cX9_shifts 36 = .ok (.iload_n 1, 1) := by decide +kernel
theorem dX9_shifts_37 : decode cX9_shifts 37 = .ok (.iload_n 3, 1) := by decide +kernel
theorem dX9_shifts_38 : decode cX9_shifts 38 = .ok (.invokestatic 72, 3) := by decide +kernel
theorem dX9_shifts_41 : decode cX9_shifts 41 = .ok (.ifCond .eq 32, 3) := by decide +kernel
theorem dX9_shifts_44 : decode cX9_shifts 44 = .ok (.aload_n 0, 1) := by decide +kernel
theorem dX9_shifts_45 : decode cX9_shifts 45 = .ok (.getfield 20, 3) := by decide +kernel
theorem dX9_shifts_48 : decode cX9_shifts 48 = .ok (.aload_n 0, 1) := by decide +kernel
theorem dX9_shifts_49 : decode cX9_shifts 49 = .ok (.getfield 13, 3) := by decide +kernel
theorem dX9_shifts_52 : decode cX9_shifts 52 = .ok (.iload_n 3, 1) := by decide +kernel
theorem dX9_shifts_53 : decode cX9_shifts 53 = .ok (.iaload, 1) := by decide +kernel
theorem dX9_shifts_54 : decode cX9_shifts 54 = .ok (.iconst 1, 1) := by decide +kernel
theorem dX9_shifts_55 : decode cX9_shifts 55 = .ok (.bastore, 1) := by decide +kernel
theorem dX9_shifts_56 : decode cX9_shifts 56 = .ok (.aload_n 0, 1) := by decide +kernel
theorem dX9_shifts_57 : decode cX9_shifts 57 = .ok (.aload_n 0, 1) := by decide +kernel
theorem dX9_shifts_58 : decode cX9_shifts 58 = .ok (.getfield 13, 3) := by decide +kernel
theorem dX9_shifts_61 : decode cX9_shifts 61 = .ok (.iload_n 3, 1) := by decide +kernel
theorem dX9_shifts_62 : decode cX9_shifts 62 = .ok (.iaload, 1) := by decide +kernel
theorem dX9_shifts_63 : decode cX9_shifts 63 = .ok (.invokevirtual 90, 3) := by decide +kernel
theorem dX9_shifts_66 : decode cX9_shifts 66 = .ok (.aload_n 0, 1) := by decide +kernel
theorem dX9_shifts_67 : decode cX9_shifts 67 = .ok (.getfield 13, 3) := by decide +kernel
theorem dX9_shifts_70 : decode cX9_shifts 70 = .ok (.iload_n 3, 1) := by decide +kernel
theorem dX9_shifts_71 : decode cX9_shifts 71 = .ok (.iconst 0, 1) := by decide +kernel
theorem dX9_shifts_72 : decode cX9_shifts 72 = .ok (.iastore, 1) := by decide +kernel
theorem dX9_shifts_73 : decode cX9_shifts 73 = .ok (.iinc 3 1, 3) := by decide +kernel
theorem dX9_shifts_76 : decode cX9_shifts 76 = .ok (.goto (-46), 3) := by decide +kernel
theorem dX9_shifts_79 : decode cX9_shifts 79 = .ok (.iconst 0, 1) := by decide +kernel
theorem dX9_shifts_80 : decode cX9_shifts 80 = .ok (.istore_n 3, 1) := by decide +kernel
theorem dX9_shifts_81 : decode cX9_shifts 81 = .ok (.iload_n 3, 1) := by decide +kernel
theorem dX9_shifts_82 : decode cX9_shifts 82 = .ok (.bipush 16, 2) := by decide +kernel
theorem dX9_shifts_84 : decode cX9_shifts 84 = .ok (.if_icmp .ge 49, 3) := by decide +kernel
theorem dX9_shifts_87 : decode cX9_shifts 87 = .ok (.iload_n 2, 1) := by decide +kernel
theorem dX9_shifts_88 : decode cX9_shifts 88 = .ok (.iload_n 3, 1) := by decide +kernel
theorem dX9_shifts_89 : decode cX9_shifts 89 = .ok (.invokestatic 72, 3) := by decide +kernel
theorem dX9_shifts_92 : decode cX9_shifts 92 = .ok (.ifCond .eq 35, 3) := by decide +kernel
theorem dX9_shifts_95 : decode cX9_shifts 95 = .ok (.aload_n 0, 1) := by decide +kernel
theorem dX9_shifts_96 : decode cX9_shifts 96 = .ok (.getfield 13, 3) := by decide +kernel
theorem dX9_shifts_99 : decode cX9_shifts 99 = .ok (.iload_n 3, 1) := by decide +kernel
theorem dX9_shifts_100 : decode cX9_shifts 100 = .ok (.aload_n 0, 1) := by decide +kernel
theorem dX9_shifts_101 : decode cX9_shifts 101 = .ok (.invokevirtual 94, 3) := by decide +kernel
theorem dX9_shifts_104 : decode cX9_shifts 104 = .ok (.iastore, 1) := by decide +kernel
theorem dX9_shifts_105 : decode cX9_shifts 105 = .ok (.aload_n 0, 1) := by decide +kernel
theorem dX9_shifts_106 : decode cX9_shifts 106 = .ok (.getfield 16, 3) := by decide +kernel
theorem dX9_shifts_109 : decode cX9_shifts 109 = .ok (.aload_n 0, 1) := by decide +kernel
theorem dX9_shifts_110 : decode cX9_shifts 110 = .ok (.getfield 13, 3) := by decide +kernel
theorem dX9_shifts_113 : decode cX9_shifts 113 = .ok (.iload_n 3, 1) := by decide +kernel
theorem dX9_shifts_114 : decode cX9_shifts 114 = .ok (.iaload, 1) := by decide +kernel
theorem dX9_shifts_115 : decode cX9_shifts 115 = .ok (.iconst 1, 1) := by decide +kernel
theorem dX9_shifts_116 : decode cX9_shifts 116 = .ok (.bastore, 1) := by decide +kernel
theorem dX9_shifts_117 : decode cX9_shifts 117 = .ok (.aload_n 0, 1) := by decide +kernel
theorem dX9_shifts_118 : decode cX9_shifts 118 = .ok (.aload_n 0, 1) := by decide +kernel
theorem dX9_shifts_119 : decode cX9_shifts 119 = .ok (.getfield 13, 3) := by decide +kernel
theorem dX9_shifts_122 : decode cX9_shifts 122 = .ok (.iload_n 3, 1) := by decide +kernel
theorem dX9_shifts_123 : decode cX9_shifts 123 = .ok (.iaload, 1) := by decide +kernel
theorem dX9_shifts_124 : decode cX9_shifts 124 = .ok (.invokevirtual 90, 3) := by decide +kernel
theorem dX9_shifts_127 : decode cX9_shifts 127 = .ok (.iinc 3 1, 3) := by decide +kernel
theorem dX9_shifts_130 : decode cX9_shifts 130 = .ok (.goto (-49), 3) := by decide +kernel
theorem dX9_shifts_133 : decode cX9_shifts 133 = .ok (.return_, 1) := by decide +kernel
theorem dX9_letters_0 : decode cX9_letters 0 = .ok (.iconst 0, 1) := by decide +kernel
theorem dX9_letters_1 : decode cX9_letters 1 = .ok (.istore_n 1, 1) := by decide +kernel
theorem dX9_letters_2 : decode cX9_letters 2 = .ok (.iconst 1, 1) := by decide +kernel
theorem dX9_letters_3 : decode cX9_letters 3 = .ok (.istore_n 2, 1) := by decide +kernel
theorem dX9_letters_4 : decode cX9_letters 4 = .ok (.iload_n 2, 1) := by decide +kernel
theorem dX9_letters_5 : decode cX9_letters 5 = .ok (.bipush 16, 2) := by decide +kernel
theorem dX9_letters_7 : decode cX9_letters 7 = .ok (.if_icmp .ge 54, 3) := by decide +kernel
theorem dX9_letters_10 : decode cX9_letters 10 = .ok (.aload_n 0, 1) := by decide +kernel
theorem dX9_letters_11 : decode cX9_letters 11 = .ok (.getfield 16, 3) := by decide +kernel
theorem dX9_letters_14 : decode cX9_letters 14 = .ok (.iload_n 2, 1) := by decide +kernel
theorem dX9_letters_15 : decode cX9_letters 15 = .ok (.baload, 1) := by decide +kernel
theorem dX9_letters_16 : decode cX9_letters 16 = .ok (.ifCond .eq 39, 3) := by decide +kernel
theorem dX9_letters_19 : decode cX9_letters 19 = .ok (.iload_n 1, 1) := by decide +kernel
theorem dX9_letters_20 : decode cX9_letters 20 = .ok (.aload_n 0, 1) := by decide +kernel
theorem dX9_letters_21 : decode cX9_letters 21 = .ok (.iconst 2, 1) := by decide +kernel
theorem dX9_letters_22 : decode cX9_letters 22 = .ok (.iload_n 2, 1) := by decide +kernel
theorem dX9_letters_23 : decode cX9_letters 23 = .ok (.imul, 1) := by decide +kernel
theorem dX9_letters_24 : decode cX9_letters 24 = .ok (.invokevirtual 87, 3) := by decide +kernel
theorem dX9_letters_27 : decode cX9_letters 27 = .ok (.ifCond .le 7, 3) := by decide +kernel
theorem dX9_letters_30 : decode cX9_letters 30 = .ok (.iconst 1, 1) := by decide +kernel
theorem dX9_letters_31 : decode cX9_letters 31 = .ok (.goto 4, 3) := by decide +kernel
theorem dX9_letters_34 : decode cX9_letters 34 = .ok (.iconst 0, 1) := by decide +kernel
theorem dX9_letters_35 : decode cX9_letters 35 = .ok (.aload_n 0, 1) := by decide +kernel
theorem dX9_letters_36 : decode cX9_letters 36 = .ok (.iconst 2, 1) := by decide +kernel
theorem dX9_letters_37 : decode cX9_letters 37 = .ok (.iload_n 2, 1) := by decide +kernel
theorem dX9_letters_38 : decode cX9_letters 38 = .ok (.imul, 1) := by decide +kernel
theorem dX9_letters_39 : decode cX9_letters 39 = .ok (.iconst 1, 1) := by decide +kernel
theorem dX9_letters_40 : decode cX9_letters 40 = .ok (.iadd, 1) := by decide +kernel
theorem dX9_letters_41 : decode cX9_letters 41 = .ok (.invokevirtual 87, 3) := by decide +kernel
theorem dX9_letters_44 : decode cX9_letters 44 = .ok (.ifCond .le 7, 3) := by decide +kernel
theorem dX9_letters_47 : decode cX9_letters 47 = .ok (.iconst 1, 1) := by decide +kernel
theorem dX9_letters_48 : decode cX9_letters 48 = .ok (.goto 4, 3) := by decide +kernel
theorem dX9_letters_51 : decode cX9_letters 51 = .ok (.iconst 0, 1) := by decide +kernel
theorem dX9_letters_52 : decode cX9_letters 52 = .ok (.iadd, 1) := by decide +kernel
theorem dX9_letters_53 : decode cX9_letters 53 = .ok (.iadd, 1) := by decide +kernel
theorem dX9_letters_54 : decode cX9_letters 54 = .ok (.istore_n 1, 1) := by decide +kernel
theorem dX9_letters_55 : decode cX9_letters 55 = .ok (.iinc 2 1, 3) := by decide +kernel
theorem dX9_letters_58 : decode cX9_letters 58 = .ok (.goto (-54), 3) := by decide +kernel
theorem dX9_letters_61 : decode cX9_letters 61 = .ok (.iload_n 1, 1) := by decide +kernel
theorem dX9_letters_62 : decode cX9_letters 62 = .ok (.ireturn, 1) := by decide +kernel
theorem dX9_come_0 : decode cX9_come 0 = .ok (.iload_n 1, 1) := by decide +kernel
theorem dX9_come_1 : decode cX9_come 1 = .ok (.invokestatic 98, 3) := by decide +kernel
theorem dX9_come_4 : decode cX9_come 4 = .ok (.ifCond .ne 5, 3) := by decide +kernel
theorem dX9_come_7 : decode cX9_come 7 = .ok (.iconst (-1), 1) := by decide +kernel
theorem dX9_come_8 : decode cX9_come 8 = .ok (.ireturn, 1) := by decide +kernel
theorem dX9_come_9 : decode cX9_come 9 = .ok (.aload_n 0, 1) := by decide +kernel
theorem dX9_come_10 : decode cX9_come 10 = .ok (.iload_n 1, 1) := by decide +kernel
theorem dX9_come_11 : decode cX9_come 11 = .ok (.invokevirtual 68, 3) := by decide +kernel
theorem dX9_come_14 : decode cX9_come 14 = .ok (.ifCond .ne 13, 3) := by decide +kernel
theorem dX9_come_17 : decode cX9_come 17 = .ok (.aload_n 0, 1) := by decide +kernel
theorem dX9_come_18 : decode cX9_come 18 = .ok (.iload_n 1, 1) := by decide +kernel
theorem dX9_come_19 : decode cX9_come 19 = .ok (.iconst 3, 1) := by decide +kernel
theorem dX9_come_20 : decode cX9_come 20 = .ok (.invokevirtual 64, 3) := by decide +kernel
theorem dX9_come_23 : decode cX9_come 23 = .ok (.iconst 1, 1) := by decide +kernel
theorem dX9_come_24 : decode cX9_come 24 = .ok (.if_icmp .ne 6, 3) := by decide +kernel
theorem dX9_come_27 : decode cX9_come 27 = .ok (.bipush (-2), 2) := by decide +kernel
theorem dX9_come_29 : decode cX9_come 29 = .ok (.ireturn, 1) := by decide +kernel
theorem dX9_come_30 : decode cX9_come 30 = .ok (.aload_n 0, 1) := by decide +kernel
theorem dX9_come_31 : decode cX9_come 31 = .ok (.invokevirtual 101, 3) := by decide +kernel
theorem dX9_come_34 : decode cX9_come 34 = .ok (.aload_n 0, 1) := by decide +kernel
theorem dX9_come_35 : decode cX9_come 35 = .ok (.iload_n 1, 1) := by decide +kernel
theorem dX9_come_36 : decode cX9_come 36 = .ok (.iconst 3, 1) := by decide +kernel
theorem dX9_come_37 : decode cX9_come 37 = .ok (.iconst 1, 1) := by decide +kernel
theorem dX9_come_38 : decode cX9_come 38 = .ok (.invokevirtual 104, 3) := by decide +kernel
theorem dX9_come_41 : decode cX9_come 41 = .ok (.aload_n 0, 1) := by decide +kernel
theorem dX9_come_42 : decode cX9_come 42 = .ok (.iconst 3, 1) := by decide +kernel
theorem dX9_come_43 : decode cX9_come 43 = .ok (.iconst 1, 1) := by decide +kernel
theorem dX9_come_44 : decode cX9_come 44 = .ok (.invokevirtual 108, 3) := by decide +kernel
theorem dX9_come_47 : decode cX9_come 47 = .ok (.invokestatic 111, 3) := by decide +kernel
theorem dX9_come_50 : decode cX9_come 50 = .ok (.ireturn, 1) := by decide +kernel
theorem dX9_leave_0 : decode cX9_leave 0 = .ok (.iload_n 1, 1) := by decide +kernel
theorem dX9_leave_1 : decode cX9_leave 1 = .ok (.invokestatic 98, 3) := by decide +kernel
theorem dX9_leave_4 : decode cX9_leave 4 = .ok (.ifCond .ne 5, 3) := by decide +kernel
theorem dX9_leave_7 : decode cX9_leave 7 = .ok (.iconst (-1), 1) := by decide +kernel
theorem dX9_leave_8 : decode cX9_leave 8 = .ok (.ireturn, 1) := by decide +kernel
theorem dX9_leave_9 : decode cX9_leave 9 = .ok (.aload_n 0, 1) := by decide +kernel
theorem dX9_leave_10 : decode cX9_leave 10 = .ok (.iload_n 1, 1) := by decide +kernel
theorem dX9_leave_11 : decode cX9_leave 11 = .ok (.invokevirtual 68, 3) := by decide +kernel
theorem dX9_leave_14 : decode cX9_leave 14 = .ok (.ifCond .eq 13, 3) := by decide +kernel
theorem dX9_leave_17 : decode cX9_leave 17 = .ok (.aload_n 0, 1) := by decide +kernel
theorem dX9_leave_18 : decode cX9_leave 18 = .ok (.iload_n 1, 1) := by decide +kernel
theorem dX9_leave_19 : decode cX9_leave 19 = .ok (.iconst 3, 1) := by decide +kernel
theorem dX9_leave_20 : decode cX9_leave 20 = .ok (.invokevirtual 64, 3) := by decide +kernel
theorem dX9_leave_23 : decode cX9_leave 23 = .ok (.iconst 2, 1) := by decide +kernel
theorem dX9_leave_24 : decode cX9_leave 24 = .ok (.if_icmp .ne 6, 3) := by decide +kernel
theorem dX9_leave_27 : decode cX9_leave 27 = .ok (.bipush (-2), 2) := by decide +kernel
theorem dX9_leave_29 : decode cX9_leave 29 = .ok (.ireturn, 1) := by decide +kernel
theorem dX9_leave_30 : decode cX9_leave 30 = .ok (.aload_n 0, 1) := by decide +kernel
theorem dX9_leave_31 : decode cX9_leave 31 = .ok (.invokevirtual 101, 3) := by decide +kernel
theorem dX9_leave_34 : decode cX9_leave 34 = .ok (.aload_n 0, 1) := by decide +kernel
theorem dX9_leave_35 : decode cX9_leave 35 = .ok (.iload_n 1, 1) := by decide +kernel
theorem dX9_leave_36 : decode cX9_leave 36 = .ok (.iconst 3, 1) := by decide +kernel
theorem dX9_leave_37 : decode cX9_leave 37 = .ok (.iconst 2, 1) := by decide +kernel
theorem dX9_leave_38 : decode cX9_leave 38 = .ok (.invokevirtual 104, 3) := by decide +kernel
theorem dX9_leave_41 : decode cX9_leave 41 = .ok (.aload_n 0, 1) := by decide +kernel
theorem dX9_leave_42 : decode cX9_leave 42 = .ok (.iconst 3, 1) := by decide +kernel
theorem dX9_leave_43 : decode cX9_leave 43 = .ok (.iconst 2, 1) := by decide +kernel
theorem dX9_leave_44 : decode cX9_leave 44 = .ok (.invokevirtual 108, 3) := by decide +kernel
theorem dX9_leave_47 : decode cX9_leave 47 = .ok (.invokestatic 111, 3) := by decide +kernel
theorem dX9_leave_50 : decode cX9_leave 50 = .ok (.ireturn, 1) := by decide +kernel
theorem dX9_reads_0 : decode cX9_reads 0 = .ok (.iconst 0, 1) := by decide +kernel
theorem dX9_reads_1 : decode cX9_reads 1 = .ok (.istore_n 2, 1) := by decide +kernel
theorem dX9_reads_2 : decode cX9_reads 2 = .ok (.aload_n 0, 1) := by decide +kernel
theorem dX9_reads_3 : decode cX9_reads 3 = .ok (.iload_n 1, 1) := by decide +kernel
theorem dX9_reads_4 : decode cX9_reads 4 = .ok (.iconst 2, 1) := by decide +kernel
theorem dX9_reads_5 : decode cX9_reads 5 = .ok (.invokevirtual 64, 3) := by decide +kernel
theorem dX9_reads_8 : decode cX9_reads 8 = .ok (.istore_n 3, 1) := by decide +kernel
theorem dX9_reads_9 : decode cX9_reads 9 = .ok (.iload_n 3, 1) := by decide +kernel
theorem dX9_reads_10 : decode cX9_reads 10 = .ok (.aload_n 0, 1) := by decide +kernel
theorem dX9_reads_11 : decode cX9_reads 11 = .ok (.getfield 7, 3) := by decide +kernel
theorem dX9_reads_14 : decode cX9_reads 14 = .ok (.iconst 1, 1) := by decide +kernel
theorem dX9_reads_15 : decode cX9_reads 15 = .ok (.iaload, 1) := by decide +kernel
theorem dX9_reads_16 : decode cX9_reads 16 = .ok (.if_icmp .ge 58, 3) := by decide +kernel
theorem dX9_reads_19 : decode cX9_reads 19 = .ok (.aload_n 0, 1) := by decide +kernel
theorem dX9_reads_20 : decode cX9_reads 20 = .ok (.iload_n 1, 1) := by decide +kernel
theorem dX9_reads_21 : decode cX9_reads 21 = .ok (.aload_n 0, 1) := by decide +kernel
theorem dX9_reads_22 : decode cX9_reads 22 = .ok (.iload_n 3, 1) := by decide +kernel
theorem dX9_reads_23 : decode cX9_reads 23 = .ok (.invokevirtual 114, 3) := by decide +kernel
theorem dX9_reads_26 : decode cX9_reads 26 = .ok (.invokevirtual 117, 3) := by decide +kernel
theorem dX9_reads_29 : decode cX9_reads 29 = .ok (.ifCond .eq 39, 3) := by decide +kernel
theorem dX9_reads_32 : decode cX9_reads 32 = .ok (.aload_n 0, 1) := by decide +kernel
theorem dX9_reads_33 : decode cX9_reads 33 = .ok (.iload_n 1, 1) := by decide +kernel
theorem dX9_reads_34 : decode cX9_reads 34 = .ok (.aload_n 0, 1) := by decide +kernel
theorem dX9_reads_35 : decode cX9_reads 35 = .ok (.iload_n 3, 1) := by decide +kernel
theorem dX9_reads_36 : decode cX9_reads 36 = .ok (.invokevirtual 120, 3) := by decide +kernel
theorem dX9_reads_39 : decode cX9_reads 39 = .ok (.invokevirtual 117, 3) := by decide +kernel
theorem dX9_reads_42 : decode cX9_reads 42 = .ok (.ifCond .ne 26, 3) := by decide +kernel
theorem dX9_reads_45 : decode cX9_reads 45 = .ok (.aload_n 0, 1) := by decide +kernel
theorem dX9_reads_46 : decode cX9_reads 46 = .ok (.getfield 7, 3) := by decide +kernel
theorem dX9_reads_49 : decode cX9_reads 49 = .ok (.sipush 330, 3) := by decide +kernel
theorem dX9_reads_52 : decode cX9_reads 52 = .ok (.aload_n 0, 1) := by decide +kernel
theorem dX9_reads_53 : decode cX9_reads 53 = .ok (.iload_n 3, 1) := by decide +kernel
theorem dX9_reads_54 : decode cX9_reads 54 = .ok (.invokevirtual 120, 3) := by decide +kernel
theorem dX9_reads_57 : decode cX9_reads 57 = .ok (.iadd, 1) := by decide +kernel
theorem dX9_reads_58 : decode cX9_reads 58 = .ok (.dup2, 1) := by decide +kernel
theorem dX9_reads_59 : decode cX9_reads 59 = .ok (.iaload, 1) := by decide +kernel
theorem dX9_reads_60 : decode cX9_reads 60 = .ok (.iconst 1, 1) := by decide +kernel
theorem dX9_reads_61 : decode cX9_reads 61 = .ok (.iload_n 1, 1) := by decide +kernel
theorem dX9_reads_62 : decode cX9_reads 62 = .ok (.ishl, 1) := by decide +kernel
theorem dX9_reads_63 : decode cX9_reads 63 = .ok (.ior, 1) := by decide +kernel
theorem dX9_reads_64 : decode cX9_reads 64 = .ok (.iastore, 1) := by decide +kernel
theorem dX9_reads_65 : decode cX9_reads 65 = .ok (.iinc 2 1, 3) := by decide +kernel
theorem dX9_reads_68 : decode cX9_reads 68 = .ok (.iinc 3 1, 3) := by decide +kernel
theorem dX9_reads_71 : decode cX9_reads 71 = .ok (.goto (-62), 3) := by decide +kernel
theorem dX9_reads_74 : decode cX9_reads 74 = .ok (.aload_n 0, 1) := by decide +kernel
theorem dX9_reads_75 : decode cX9_reads 75 = .ok (.iload_n 1, 1) := by decide +kernel
theorem dX9_reads_76 : decode cX9_reads 76 = .ok (.iconst 2, 1) := by decide +kernel
theorem dX9_reads_77 : decode cX9_reads 77 = .ok (.aload_n 0, 1) := by decide +kernel
theorem dX9_reads_78 : decode cX9_reads 78 = .ok (.getfield 7, 3) := by decide +kernel
theorem dX9_reads_81 : decode cX9_reads 81 = .ok (.iconst 1, 1) := by decide +kernel
theorem dX9_reads_82 : decode cX9_reads 82 = .ok (.iaload, 1) := by decide +kernel
theorem dX9_reads_83 : decode cX9_reads 83 = .ok (.invokevirtual 104, 3) := by decide +kernel
theorem dX9_reads_86 : decode cX9_reads 86 = .ok (.iload_n 2, 1) := by decide +kernel
theorem dX9_reads_87 : decode cX9_reads 87 = .ok (.ireturn, 1) := by decide +kernel
theorem dX9_readAll_0 : decode cX9_readAll 0 = .ok (.iconst 0, 1) := by decide +kernel
theorem dX9_readAll_1 : decode cX9_readAll 1 = .ok (.istore_n 1, 1) := by decide +kernel
theorem dX9_readAll_2 : decode cX9_readAll 2 = .ok (.iload_n 1, 1) := by decide +kernel
theorem dX9_readAll_3 : decode cX9_readAll 3 = .ok (.bipush 16, 2) := by decide +kernel
theorem dX9_readAll_5 : decode cX9_readAll 5 = .ok (.if_icmp .ge 32, 3) := by decide +kernel
theorem dX9_readAll_8 : decode cX9_readAll 8 = .ok (.aload_n 0, 1) := by decide +kernel
theorem dX9_readAll_9 : decode cX9_readAll 9 = .ok (.iload_n 1, 1) := by decide +kernel
theorem dX9_readAll_10 : decode cX9_readAll 10 = .ok (.invokevirtual 68, 3) := by decide +kernel
theorem dX9_readAll_13 : decode cX9_readAll 13 = .ok (.ifCond .eq 18, 3) := by decide +kernel
theorem dX9_readAll_16 : decode cX9_readAll 16 = .ok (.aload_n 0, 1) := by decide +kernel
theorem dX9_readAll_17 : decode cX9_readAll 17 = .ok (.iload_n 1, 1) := by decide +kernel
theorem dX9_readAll_18 : decode cX9_readAll 18 = .ok (.iconst 1, 1) := by decide +kernel
theorem dX9_readAll_19 : decode cX9_readAll 19 = .ok (.invokevirtual 64, 3) := by decide +kernel
theorem dX9_readAll_22 : decode cX9_readAll 22 = .ok (.ifCond .ne 9, 3) := by decide +kernel
theorem dX9_readAll_25 : decode cX9_readAll 25 = .ok (.aload_n 0, 1) := by decide +kernel
theorem dX9_readAll_26 : decode cX9_readAll 26 = .ok (.iload_n 1, 1) := by decide +kernel
theorem dX9_readAll_27 : decode cX9_readAll 27 = .ok (.invokevirtual 123, 3) := by decide +kernel
theorem dX9_readAll_30 : decode cX9_readAll 30 = .ok (.pop, 1) := by decide +kernel
theorem dX9_readAll_31 : decode cX9_readAll 31 = .ok (.iinc 1 1, 3) := by decide +kernel
theorem dX9_readAll_34 : decode cX9_readAll 34 = .ok (.goto (-32), 3) := by decide +kernel
theorem dX9_readAll_37 : decode cX9_readAll 37 = .ok (.return_, 1) := by decide +kernel
theorem dX9_refusal_0 : decode cX9_refusal 0 = .ok (.aload_n 0, 1) := by decide +kernel
theorem dX9_refusal_1 : decode cX9_refusal 1 = .ok (.iconst 3, 1) := by decide +kernel
theorem dX9_refusal_2 : decode cX9_refusal 2 = .ok (.iconst 1, 1) := by decide +kernel
theorem dX9_refusal_3 : decode cX9_refusal 3 = .ok (.invokevirtual 108, 3) := by decide +kernel
theorem dX9_refusal_6 : decode cX9_refusal 6 = .ok (.ifCond .ne 17, 3) := by decide +kernel
theorem dX9_refusal_9 : decode cX9_refusal 9 = .ok (.aload_n 0, 1) := by decide +kernel
theorem dX9_refusal_10 : decode cX9_refusal 10 = .ok (.iconst 3, 1) := by decide +kernel
theorem dX9_refusal_11 : decode cX9_refusal 11 = .ok (.iconst 2, 1) := by decide +kernel
theorem dX9_refusal_12 : decode cX9_refusal 12 = .ok (.invokevirtual 108, 3) := by decide +kernel
theorem dX9_refusal_15 : decode cX9_refusal 15 = .ok (.ifCond .ne 8, 3) := by decide +kernel
theorem dX9_refusal_18 : decode cX9_refusal 18 = .ok (.bipush (-2), 2) := by decide +kernel
theorem dX9_refusal_20 : decode cX9_refusal 20 = .ok (.goto 16, 3) := by decide +kernel
theorem dX9_refusal_23 : decode cX9_refusal 23 = .ok (.aload_n 0, 1) := by decide +kernel
theorem dX9_refusal_24 : decode cX9_refusal 24 = .ok (.invokevirtual 126, 3) := by decide +kernel
theorem dX9_refusal_27 : decode cX9_refusal 27 = .ok (.ifCond .eq 8, 3) := by decide +kernel
theorem dX9_refusal_30 : decode cX9_refusal 30 = .ok (.bipush (-3), 2) := by decide +kernel
theorem dX9_refusal_32 : decode cX9_refusal 32 = .ok (.goto 4, 3) := by decide +kernel
theorem dX9_refusal_35 : decode cX9_refusal 35 = .ok (.iconst 0, 1) := by decide +kernel
theorem dX9_refusal_36 : decode cX9_refusal 36 = .ok (.ireturn, 1) := by decide +kernel
theorem dX9_batches_0 : decode cX9_batches 0 = .ok (.aload_n 0, 1) := by decide +kernel
theorem dX9_batches_1 : decode cX9_batches 1 = .ok (.iconst 3, 1) := by decide +kernel
theorem dX9_batches_2 : decode cX9_batches 2 = .ok (.iconst 1, 1) := by decide +kernel
theorem dX9_batches_3 : decode cX9_batches 3 = .ok (.invokevirtual 108, 3) := by decide +kernel
theorem dX9_batches_6 : decode cX9_batches 6 = .ok (.istore_n 1, 1) := by decide +kernel
theorem dX9_batches_7 : decode cX9_batches 7 = .ok (.aload_n 0, 1) := by decide +kernel
theorem dX9_batches_8 : decode cX9_batches 8 = .ok (.iconst 3, 1) := by decide +kernel
theorem dX9_batches_9 : decode cX9_batches 9 = .ok (.iconst 2, 1) := by decide +kernel
theorem dX9_batches_10 : decode cX9_batches 10 = .ok (.invokevirtual 108, 3) := by decide +kernel
theorem dX9_batches_13 : decode cX9_batches 13 = .ok (.istore_n 2, 1) := by decide +kernel
theorem dX9_batches_14 : decode cX9_batches 14 = .ok (.aload_n 0, 1) := by decide +kernel
theorem dX9_batches_15 : decode cX9_batches 15 = .ok (.getfield 7, 3) := by decide +kernel
theorem dX9_batches_18 : decode cX9_batches 18 = .ok (.iconst 1, 1) := by decide +kernel
theorem dX9_batches_19 : decode cX9_batches 19 = .ok (.iaload, 1) := by decide +kernel
theorem dX9_batches_20 : decode cX9_batches 20 = .ok (.istore_n 3, 1) := by decide +kernel
theorem dX9_batches_21 : decode cX9_batches 21 = .ok (.aload_n 0, 1) := by decide +kernel
theorem dX9_batches_22 : decode cX9_batches 22 = .ok (.invokevirtual 130, 3) := by decide +kernel
theorem dX9_batches_25 : decode cX9_batches 25 = .ok (.aload_n 0, 1) := by decide +kernel
theorem dX9_batches_26 : decode cX9_batches 26 = .ok (.iload_n 2, 1) := by decide +kernel
theorem dX9_batches_27 : decode cX9_batches 27 = .ok (.iload_n 1, 1) := by decide +kernel
theorem dX9_batches_28 : decode cX9_batches 28 = .ok (.invokevirtual 133, 3) := by decide +kernel
theorem dX9_batches_31 : decode cX9_batches 31 = .ok (.iconst 0, 1) := by decide +kernel
theorem dX9_batches_32 : decode cX9_batches 32 = .ok (.istore 4, 2) := by decide +kernel
theorem dX9_batches_34 : decode cX9_batches 34 = .ok (.iload 4, 2) := by decide +kernel
theorem dX9_batches_36 : decode cX9_batches 36 = .ok (.bipush 16, 2) := by decide +kernel
theorem dX9_batches_38 : decode cX9_batches 38 = .ok (.if_icmp .ge 87, 3) := by decide +kernel
theorem dX9_batches_41 : decode cX9_batches 41 = .ok (.aload_n 0, 1) := by decide +kernel
theorem dX9_batches_42 : decode cX9_batches 42 = .ok (.iload 4, 2) := by decide +kernel
theorem dX9_batches_44 : decode cX9_batches 44 = .ok (.iconst 0, 1) := by decide +kernel
theorem dX9_batches_45 : decode cX9_batches 45 = .ok (.aload_n 0, 1) := by decide +kernel
theorem dX9_batches_46 : decode cX9_batches 46 = .ok (.getfield 13, 3) := by decide +kernel
theorem dX9_batches_49 : decode cX9_batches 49 = .ok (.iload 4, 2) := by decide +kernel
theorem dX9_batches_51 : decode cX9_batches 51 = .ok (.iaload, 1) := by decide +kernel
theorem dX9_batches_52 : decode cX9_batches 52 = .ok (.invokevirtual 104, 3) := by decide +kernel
theorem dX9_batches_55 : decode cX9_batches 55 = .ok (.aload_n 0, 1) := by decide +kernel
theorem dX9_batches_56 : decode cX9_batches 56 = .ok (.iload 4, 2) := by decide +kernel
theorem dX9_batches_58 : decode cX9_batches 58 = .ok (.iconst 3, 1) := by decide +kernel
theorem dX9_batches_59 : decode cX9_batches 59 = .ok (.invokevirtual 64, 3) := by decide +kernel
theorem dX9_batches_62 : decode cX9_batches 62 = .ok (.ifCond .le 49, 3) := by decide +kernel
theorem dX9_batches_65 : decode cX9_batches 65 = .ok (.aload_n 0, 1) := by decide +kernel
theorem dX9_batches_66 : decode cX9_batches 66 = .ok (.iload 4, 2) := by decide +kernel
theorem dX9_batches_68 : decode cX9_batches 68 = .ok (.iconst 1, 1) := by decide +kernel
theorem dX9_batches_69 : decode cX9_batches 69 = .ok (.iconst 0, 1) := by decide +kernel
theorem dX9_batches_70 : decode cX9_batches 70 = .ok (.invokevirtual 104, 3) := by decide +kernel
theorem dX9_batches_73 : decode cX9_batches 73 = .ok (.aload_n 0, 1) := by decide +kernel
theorem dX9_batches_74 : decode cX9_batches 74 = .ok (.iload 4, 2) := by decide +kernel
theorem dX9_batches_76 : decode cX9_batches 76 = .ok (.iconst 2, 1) := by decide +kernel
theorem dX9_batches_77 : decode cX9_batches 77 = .ok (.iload_n 3, 1) := by decide +kernel
theorem dX9_batches_78 : decode cX9_batches 78 = .ok (.invokevirtual 104, 3) := by decide +kernel
theorem dX9_batches_81 : decode cX9_batches 81 = .ok (.aload_n 0, 1) := by decide +kernel
theorem dX9_batches_82 : decode cX9_batches 82 = .ok (.iload 4, 2) := by decide +kernel
theorem dX9_batches_84 : decode cX9_batches 84 = .ok (.aload_n 0, 1) := by decide +kernel
theorem dX9_batches_85 : decode cX9_batches 85 = .ok (.iload 4, 2) := by decide +kernel
theorem dX9_batches_87 : decode cX9_batches 87 = .ok (.iconst 3, 1) := by decide +kernel
theorem dX9_batches_88 : decode cX9_batches 88 = .ok (.invokevirtual 64, 3) := by decide +kernel
theorem dX9_batches_91 : decode cX9_batches 91 = .ok (.iconst 1, 1) := by decide +kernel
theorem dX9_batches_92 : decode cX9_batches 92 = .ok (.if_icmp .ne 7, 3) := by decide +kernel
theorem dX9_batches_95 : decode cX9_batches 95 = .ok (.iconst 4, 1) := by decide +kernel
theorem dX9_batches_96 : decode cX9_batches 96 = .ok (.goto 4, 3) := by decide +kernel
theorem dX9_batches_99 : decode cX9_batches 99 = .ok (.iconst 5, 1) := by decide +kernel
theorem dX9_batches_100 : decode cX9_batches 100 = .ok (.aload_n 0, 1) := by decide +kernel
theorem dX9_batches_101 : decode cX9_batches 101 = .ok (.getfield 7, 3) := by decide +kernel
theorem dX9_batches_104 : decode cX9_batches 104 = .ok (.iconst 2, 1) := by decide +kernel
theorem dX9_batches_105 : decode cX9_batches 105 = .ok (.iaload, 1) := by decide +kernel
theorem dX9_batches_106 : decode cX9_batches 106 = .ok (.iconst 1, 1) := by decide +kernel
theorem dX9_batches_107 : decode cX9_batches 107 = .ok (.iadd, 1) := by decide +kernel
theorem dX9_batches_108 : decode cX9_batches 108 = .ok (.invokevirtual 104, 3) := by decide +kernel
theorem dX9_batches_111 : decode cX9_batches 111 = .ok (.aload_n 0, 1) := by decide +kernel
theorem dX9_batches_112 : decode cX9_batches 112 = .ok (.iload 4, 2) := by decide +kernel
theorem dX9_batches_114 : decode cX9_batches 114 = .ok (.iconst 3, 1) := by decide +kernel
theorem dX9_batches_115 : decode cX9_batches 115 = .ok (.iconst 0, 1) := by decide +kernel
theorem dX9_batches_116 : decode cX9_batches 116 = .ok (.invokevirtual 104, 3) := by decide +kernel
theorem dX9_batches_119 : decode cX9_batches 119 = .ok (.iinc 4 1, 3) := by decide +kernel
theorem dX9_batches_122 : decode cX9_batches 122 = .ok (.goto (-88), 3) := by decide +kernel
theorem dX9_batches_125 : decode cX9_batches 125 = .ok (.bipush 31, 2) := by decide +kernel
theorem dX9_batches_127 : decode cX9_batches 127 = .ok (.istore 4, 2) := by decide +kernel
theorem dX9_batches_129 : decode cX9_batches 129 = .ok (.iload 4, 2) := by decide +kernel
theorem dX9_batches_131 : decode cX9_batches 131 = .ok (.ifCond .le 64, 3) := by decide +kernel
theorem dX9_batches_134 : decode cX9_batches 134 = .ok (.aload_n 0, 1) := by decide +kernel
theorem dX9_batches_135 : decode cX9_batches 135 = .ok (.getfield 16, 3) := by decide +kernel
theorem dX9_batches_138 : decode cX9_batches 138 = .ok (.iload 4, 2) := by decide +kernel
theorem dX9_batches_140 : decode cX9_batches 140 = .ok (.baload, 1) := by decide +kernel
theorem dX9_batches_141 : decode cX9_batches 141 = .ok (.ifCond .eq 48, 3) := by decide +kernel
theorem dX9_batches_144 : decode cX9_batches 144 = .ok (.aload_n 0, 1) := by decide +kernel
theorem dX9_batches_145 : decode cX9_batches 145 = .ok (.iload 4, 2) := by decide +kernel
theorem dX9_batches_147 : decode cX9_batches 147 = .ok (.invokevirtual 84, 3) := by decide +kernel
theorem dX9_batches_150 : decode cX9_batches 150 = .ok (.ifCond .eq 39, 3) := by decide +kernel
theorem dX9_batches_153 : decode cX9_batches 153 = .ok (.aload_n 0, 1) := by decide +kernel
theorem dX9_batches_154 : decode cX9_batches 154 = .ok (.iload 4, 2) := by decide +kernel
theorem dX9_batches_156 : decode cX9_batches 156 = .ok (.invokevirtual 137, 3) := by decide +kernel
theorem dX9_batches_159 : decode cX9_batches 159 = .ok (.istore 5, 2) := by decide +kernel
theorem dX9_batches_161 : decode cX9_batches 161 = .ok (.aload_n 0, 1) := by decide +kernel
theorem dX9_batches_162 : decode cX9_batches 162 = .ok (.getfield 7, 3) := by decide +kernel
theorem dX9_batches_165 : decode cX9_batches 165 = .ok (.sipush 330, 3) := by decide +kernel
theorem dX9_batches_168 : decode cX9_batches 168 = .ok (.iload 5, 2) := by decide +kernel
theorem dX9_batches_170 : decode cX9_batches 170 = .ok (.iadd, 1) := by decide +kernel
theorem dX9_batches_171 : decode cX9_batches 171 = .ok (.iload 4, 2) := by decide +kernel
theorem dX9_batches_173 : decode cX9_batches 173 = .ok (.bipush 15, 2) := by decide +kernel
theorem dX9_batches_175 : decode cX9_batches 175 = .ok (.if_icmp .le 12, 3) := by decide +kernel
theorem dX9_batches_178 : decode cX9_batches 178 = .ok (.aload_n 0, 1) := by decide +kernel
theorem dX9_batches_179 : decode cX9_batches 179 = .ok (.iload 4, 2) := by decide +kernel
theorem dX9_batches_181 : decode cX9_batches 181 = .ok (.invokevirtual 84, 3) := by decide +kernel
theorem dX9_batches_184 : decode cX9_batches 184 = .ok (.goto 4, 3) := by decide +kernel
theorem dX9_batches_187 : decode cX9_batches 187 = .ok (.iconst 0, 1) := by decide +kernel
theorem dX9_batches_188 : decode cX9_batches 188 = .ok (.iastore, 1) := by decide +kernel
theorem dX9_batches_189 : decode cX9_batches 189 = .ok (.iinc 4 (-1), 3) := by decide +kernel
theorem dX9_batches_192 : decode cX9_batches 192 = .ok (.goto (-63), 3) := by decide +kernel
theorem dX9_batches_195 : decode cX9_batches 195 = .ok (.bipush 15, 2) := by decide +kernel
theorem dX9_batches_197 : decode cX9_batches 197 = .ok (.istore 4, 2) := by decide +kernel
theorem dX9_batches_199 : decode cX9_batches 199 = .ok (.iload 4, 2) := by decide +kernel
theorem dX9_batches_201 : decode cX9_batches 201 = .ok (.ifCond .le 73, 3) := by decide +kernel
theorem dX9_batches_204 : decode cX9_batches 204 = .ok (.iconst 2, 1) := by decide +kernel
theorem dX9_batches_205 : decode cX9_batches 205 = .ok (.iload 4, 2) := by decide +kernel
theorem dX9_batches_207 : decode cX9_batches 207 = .ok (.imul, 1) := by decide +kernel
theorem dX9_batches_208 : decode cX9_batches 208 = .ok (.istore 5, 2) := by decide +kernel
theorem dX9_batches_210 : decode cX9_batches 210 = .ok (.iload 5, 2) := by decide +kernel
theorem dX9_batches_212 : decode cX9_batches 212 = .ok (.iconst 2, 1) := by decide +kernel
theorem dX9_batches_213 : decode cX9_batches 213 = .ok (.iload 4, 2) := by decide +kernel
theorem dX9_batches_215 : decode cX9_batches 215 = .ok (.imul, 1) := by decide +kernel
theorem dX9_batches_216 : decode cX9_batches 216 = .ok (.iconst 2, 1) := by decide +kernel
theorem dX9_batches_217 : decode cX9_batches 217 = .ok (.iadd, 1) := by decide +kernel
theorem dX9_batches_218 : decode cX9_batches 218 = .ok (.if_icmp .ge 50, 3) := by decide +kernel
theorem dX9_batches_221 : decode cX9_batches 221 = .ok (.aload_n 0, 1) := by decide +kernel
theorem dX9_batches_222 : decode cX9_batches 222 = .ok (.getfield 16, 3) := by decide +kernel
theorem dX9_batches_225 : decode cX9_batches 225 = .ok (.iload 4, 2) := by decide +kernel
theorem dX9_batches_227 : decode cX9_batches 227 = .ok (.baload, 1) := by decide +kernel
theorem dX9_batches_228 : decode cX9_batches 228 = .ok (.ifCond .eq 34, 3) := by decide +kernel
theorem dX9_batches_231 : decode cX9_batches 231 = .ok (.aload_n 0, 1) := by decide +kernel
theorem dX9_batches_232 : decode cX9_batches 232 = .ok (.iload 5, 2) := by decide +kernel
theorem dX9_batches_234 : decode cX9_batches 234 = .ok (.invokevirtual 84, 3) := by decide +kernel
theorem dX9_batches_237 : decode cX9_batches 237 = .ok (.ifCond .eq 25, 3) := by decide +kernel
theorem dX9_batches_240 : decode cX9_batches 240 = .ok (.aload_n 0, 1) := by decide +kernel
theorem dX9_batches_241 : decode cX9_batches 241 = .ok (.aload_n 0, 1) := by decide +kernel
theorem dX9_batches_242 : decode cX9_batches 242 = .ok (.iload 4, 2) := by decide +kernel
theorem dX9_batches_244 : decode cX9_batches 244 = .ok (.invokevirtual 140, 3) := by decide +kernel
theorem dX9_batches_247 : decode cX9_batches 247 = .ok (.aload_n 0, 1) := by decide +kernel
theorem dX9_batches_248 : decode cX9_batches 248 = .ok (.iload 5, 2) := by decide +kernel
theorem dX9_batches_250 : decode cX9_batches 250 = .ok (.invokevirtual 140, 3) := by decide +kernel
theorem dX9_batches_253 : decode cX9_batches 253 = .ok (.aload_n 0, 1) := by decide +kernel
theorem dX9_batches_254 : decode cX9_batches 254 = .ok (.getfield 7, 3) := by decide +kernel
theorem dX9_batches_257 : decode cX9_batches 257 = .ok (.iconst 2, 1) := by decide +kernel
theorem dX9_batches_258 : decode cX9_batches 258 = .ok (.iaload, 1) := by decide +kernel
theorem dX9_batches_259 : decode cX9_batches 259 = .ok (.invokevirtual 143, 3) := by decide +kernel
theorem dX9_batches_262 : decode cX9_batches 262 = .ok (.iinc 5 1, 3) := by decide +kernel
theorem dX9_batches_265 : decode cX9_batches 265 = .ok (.goto (-55), 3) := by decide +kernel
theorem dX9_batches_268 : decode cX9_batches 268 = .ok (.iinc 4 (-1), 3) := by decide +kernel
theorem dX9_batches_271 : decode cX9_batches 271 = .ok (.goto (-72), 3) := by decide +kernel
theorem dX9_batches_274 : decode cX9_batches 274 = .ok (.aload_n 0, 1) := by decide +kernel
theorem dX9_batches_275 : decode cX9_batches 275 = .ok (.getfield 7, 3) := by decide +kernel
theorem dX9_batches_278 : decode cX9_batches 278 = .ok (.iconst 2, 1) := by decide +kernel
theorem dX9_batches_279 : decode cX9_batches 279 = .ok (.dup2, 1) := by decide +kernel
theorem dX9_batches_280 : decode cX9_batches 280 = .ok (.iaload, 1) := by decide +kernel
theorem dX9_batches_281 : decode cX9_batches 281 = .ok (.iconst 1, 1) := by decide +kernel
theorem dX9_batches_282 : decode cX9_batches 282 = .ok (.iadd, 1) := by decide +kernel
theorem dX9_batches_283 : decode cX9_batches 283 = .ok (.iastore, 1) := by decide +kernel
theorem dX9_batches_284 : decode cX9_batches 284 = .ok (.aload_n 0, 1) := by decide +kernel
theorem dX9_batches_285 : decode cX9_batches 285 = .ok (.invokevirtual 146, 3) := by decide +kernel
theorem dX9_batches_288 : decode cX9_batches 288 = .ok (.aload_n 0, 1) := by decide +kernel
theorem dX9_batches_289 : decode cX9_batches 289 = .ok (.getfield 7, 3) := by decide +kernel
theorem dX9_batches_292 : decode cX9_batches 292 = .ok (.iconst 1, 1) := by decide +kernel
theorem dX9_batches_293 : decode cX9_batches 293 = .ok (.iaload, 1) := by decide +kernel
theorem dX9_batches_294 : decode cX9_batches 294 = .ok (.iload_n 3, 1) := by decide +kernel
theorem dX9_batches_295 : decode cX9_batches 295 = .ok (.isub, 1) := by decide +kernel
theorem dX9_batches_296 : decode cX9_batches 296 = .ok (.ireturn, 1) := by decide +kernel
theorem dX9_batch_0 : decode cX9_batch 0 = .ok (.aload_n 0, 1) := by decide +kernel
theorem dX9_batch_1 : decode cX9_batch 1 = .ok (.invokevirtual 149, 3) := by decide +kernel
theorem dX9_batch_4 : decode cX9_batch 4 = .ok (.istore_n 1, 1) := by decide +kernel
theorem dX9_batch_5 : decode cX9_batch 5 = .ok (.iload_n 1, 1) := by decide +kernel
theorem dX9_batch_6 : decode cX9_batch 6 = .ok (.ifCond .ge 5, 3) := by decide +kernel
theorem dX9_batch_9 : decode cX9_batch 9 = .ok (.iload_n 1, 1) := by decide +kernel
theorem dX9_batch_10 : decode cX9_batch 10 = .ok (.ireturn, 1) := by decide +kernel
theorem dX9_batch_11 : decode cX9_batch 11 = .ok (.aload_n 0, 1) := by decide +kernel
theorem dX9_batch_12 : decode cX9_batch 12 = .ok (.invokevirtual 101, 3) := by decide +kernel
theorem dX9_batch_15 : decode cX9_batch 15 = .ok (.aload_n 0, 1) := by decide +kernel
theorem dX9_batch_16 : decode cX9_batch 16 = .ok (.invokevirtual 152, 3) := by decide +kernel
theorem dX9_batch_19 : decode cX9_batch 19 = .ok (.ireturn, 1) := by decide +kernel
theorem dX9_late_0 : decode cX9_late 0 = .ok (.iload_n 1, 1) := by decide +kernel
theorem dX9_late_1 : decode cX9_late 1 = .ok (.invokestatic 98, 3) := by decide +kernel
theorem dX9_late_4 : decode cX9_late 4 = .ok (.ifCond .eq 13, 3) := by decide +kernel
theorem dX9_late_7 : decode cX9_late 7 = .ok (.iload_n 2, 1) := by decide +kernel
theorem dX9_late_8 : decode cX9_late 8 = .ok (.i2l, 1) := by decide +kernel
theorem dX9_late_9 : decode cX9_late 9 = .ok (.lconst 0, 1) := by decide +kernel
theorem dX9_late_10 : decode cX9_late 10 = .ok (.lconst 1, 1) := by decide +kernel
theorem dX9_late_11 : decode cX9_late 11 = .ok (.invokestatic 60, 3) := by decide +kernel
theorem dX9_late_14 : decode cX9_late 14 = .ok (.ifCond .ne 5, 3) := by decide +kernel
theorem dX9_late_17 : decode cX9_late 17 = .ok (.iconst (-1), 1) := by decide +kernel
theorem dX9_late_18 : decode cX9_late 18 = .ok (.ireturn, 1) := by decide +kernel
theorem dX9_late_19 : decode cX9_late 19 = .ok (.aload_n 0, 1) := by decide +kernel
theorem dX9_late_20 : decode cX9_late 20 = .ok (.iload_n 1, 1) := by decide +kernel
theorem dX9_late_21 : decode cX9_late 21 = .ok (.invokevirtual 68, 3) := by decide +kernel
theorem dX9_late_24 : decode cX9_late 24 = .ok (.ifCond .eq 13, 3) := by decide +kernel
theorem dX9_late_27 : decode cX9_late 27 = .ok (.aload_n 0, 1) := by decide +kernel
theorem dX9_late_28 : decode cX9_late 28 = .ok (.iload_n 1, 1) := by decide +kernel
theorem dX9_late_29 : decode cX9_late 29 = .ok (.iconst 1, 1) := by decide +kernel
theorem dX9_late_30 : decode cX9_late 30 = .ok (.invokevirtual 64, 3) := by decide +kernel
theorem dX9_late_33 : decode cX9_late 33 = .ok (.iload_n 2, 1) := by decide +kernel
theorem dX9_late_34 : decode cX9_late 34 = .ok (.if_icmp .ne 6, 3) := by decide +kernel
theorem dX9_late_37 : decode cX9_late 37 = .ok (.bipush (-2), 2) := by decide +kernel
theorem dX9_late_39 : decode cX9_late 39 = .ok (.ireturn, 1) := by decide +kernel
theorem dX9_late_40 : decode cX9_late 40 = .ok (.aload_n 0, 1) := by decide +kernel
theorem dX9_late_41 : decode cX9_late 41 = .ok (.invokevirtual 101, 3) := by decide +kernel
theorem dX9_late_44 : decode cX9_late 44 = .ok (.aload_n 0, 1) := by decide +kernel
theorem dX9_late_45 : decode cX9_late 45 = .ok (.iload_n 1, 1) := by decide +kernel
theorem dX9_late_46 : decode cX9_late 46 = .ok (.iconst 1, 1) := by decide +kernel
theorem dX9_late_47 : decode cX9_late 47 = .ok (.iload_n 2, 1) := by decide +kernel
theorem dX9_late_48 : decode cX9_late 48 = .ok (.invokevirtual 104, 3) := by decide +kernel
theorem dX9_late_51 : decode cX9_late 51 = .ok (.iload_n 2, 1) := by decide +kernel
theorem dX9_late_52 : decode cX9_late 52 = .ok (.iconst 1, 1) := by decide +kernel
theorem dX9_late_53 : decode cX9_late 53 = .ok (.if_icmp .ne 7, 3) := by decide +kernel
theorem dX9_late_56 : decode cX9_late 56 = .ok (.iconst 0, 1) := by decide +kernel
theorem dX9_late_57 : decode cX9_late 57 = .ok (.goto 8, 3) := by decide +kernel
theorem dX9_late_60 : decode cX9_late 60 = .ok (.aload_n 0, 1) := by decide +kernel
theorem dX9_late_61 : decode cX9_late 61 = .ok (.iload_n 1, 1) := by decide +kernel
theorem dX9_late_62 : decode cX9_late 62 = .ok (.invokevirtual 123, 3) := by decide +kernel
theorem dX9_late_65 : decode cX9_late 65 = .ok (.ireturn, 1) := by decide +kernel
theorem dX9_lose_0 : decode cX9_lose 0 = .ok (.iload_n 1, 1) := by decide +kernel
theorem dX9_lose_1 : decode cX9_lose 1 = .ok (.invokestatic 98, 3) := by decide +kernel
theorem dX9_lose_4 : decode cX9_lose 4 = .ok (.ifCond .eq 15, 3) := by decide +kernel
theorem dX9_lose_7 : decode cX9_lose 7 = .ok (.iload_n 2, 1) := by decide +kernel
theorem dX9_lose_8 : decode cX9_lose 8 = .ok (.i2l, 1) := by decide +kernel
theorem dX9_lose_9 : decode cX9_lose 9 = .ok (.lconst 1, 1) := by decide +kernel
theorem dX9_lose_10 : decode cX9_lose 10 = .ok (.ldc2_w 155, 3) := by decide +kernel
theorem dX9_lose_13 : decode cX9_lose 13 = .ok (.invokestatic 60, 3) := by decide +kernel
theorem dX9_lose_16 : decode cX9_lose 16 = .ok (.ifCond .ne 5, 3) := by decide +kernel
theorem dX9_lose_19 : decode cX9_lose 19 = .ok (.iconst (-1), 1) := by decide +kernel
theorem dX9_lose_20 : decode cX9_lose 20 = .ok (.ireturn, 1) := by decide +kernel
theorem dX9_lose_21 : decode cX9_lose 21 = .ok (.aload_n 0, 1) := by decide +kernel
theorem dX9_lose_22 : decode cX9_lose 22 = .ok (.iload_n 1, 1) := by decide +kernel
theorem dX9_lose_23 : decode cX9_lose 23 = .ok (.iconst 1, 1) := by decide +kernel
theorem dX9_lose_24 : decode cX9_lose 24 = .ok (.invokevirtual 64, 3) := by decide +kernel
theorem dX9_lose_27 : decode cX9_lose 27 = .ok (.ifCond .ne 6, 3) := by decide +kernel
theorem dX9_lose_30 : decode cX9_lose 30 = .ok (.bipush (-2), 2) := by decide +kernel
theorem dX9_lose_32 : decode cX9_lose 32 = .ok (.ireturn, 1) := by decide +kernel
theorem dX9_lose_33 : decode cX9_lose 33 = .ok (.aload_n 0, 1) := by decide +kernel
theorem dX9_lose_34 : decode cX9_lose 34 = .ok (.invokevirtual 101, 3) := by decide +kernel
theorem dX9_lose_37 : decode cX9_lose 37 = .ok (.aload_n 0, 1) := by decide +kernel
theorem dX9_lose_38 : decode cX9_lose 38 = .ok (.getfield 7, 3) := by decide +kernel
theorem dX9_lose_41 : decode cX9_lose 41 = .ok (.iconst 1, 1) := by decide +kernel
theorem dX9_lose_42 : decode cX9_lose 42 = .ok (.iaload, 1) := by decide +kernel
theorem dX9_lose_43 : decode cX9_lose 43 = .ok (.aload_n 0, 1) := by decide +kernel
theorem dX9_lose_44 : decode cX9_lose 44 = .ok (.iload_n 1, 1) := by decide +kernel
theorem dX9_lose_45 : decode cX9_lose 45 = .ok (.iconst 2, 1) := by decide +kernel
theorem dX9_lose_46 : decode cX9_lose 46 = .ok (.invokevirtual 64, 3) := by decide +kernel
theorem dX9_lose_49 : decode cX9_lose 49 = .ok (.isub, 1) := by decide +kernel
theorem dX9_lose_50 : decode cX9_lose 50 = .ok (.istore_n 3, 1) := by decide +kernel
theorem dX9_lose_51 : decode cX9_lose 51 = .ok (.iload_n 3, 1) := by decide +kernel
theorem dX9_lose_52 : decode cX9_lose 52 = .ok (.iload_n 2, 1) := by decide +kernel
theorem dX9_lose_53 : decode cX9_lose 53 = .ok (.if_icmp .ge 7, 3) := by decide +kernel
theorem dX9_lose_56 : decode cX9_lose 56 = .ok (.iload_n 3, 1) := by decide +kernel
theorem dX9_lose_57 : decode cX9_lose 57 = .ok (.goto 4, 3) := by decide +kernel
theorem dX9_lose_60 : decode cX9_lose 60 = .ok (.iload_n 2, 1) := by decide +kernel
theorem dX9_lose_61 : decode cX9_lose 61 = .ok (.istore 4, 2) := by decide +kernel
theorem dX9_lose_63 : decode cX9_lose 63 = .ok (.aload_n 0, 1) := by decide +kernel
theorem dX9_lose_64 : decode cX9_lose 64 = .ok (.iload_n 1, 1) := by decide +kernel
theorem dX9_lose_65 : decode cX9_lose 65 = .ok (.iconst 2, 1) := by decide +kernel
theorem dX9_lose_66 : decode cX9_lose 66 = .ok (.aload_n 0, 1) := by decide +kernel
theorem dX9_lose_67 : decode cX9_lose 67 = .ok (.iload_n 1, 1) := by decide +kernel
theorem dX9_lose_68 : decode cX9_lose 68 = .ok (.iconst 2, 1) := by decide +kernel
theorem dX9_lose_69 : decode cX9_lose 69 = .ok (.invokevirtual 64, 3) := by decide +kernel
theorem dX9_lose_72 : decode cX9_lose 72 = .ok (.iload 4, 2) := by decide +kernel
theorem dX9_lose_74 : decode cX9_lose 74 = .ok (.iadd, 1) := by decide +kernel
theorem dX9_lose_75 : decode cX9_lose 75 = .ok (.invokevirtual 104, 3) := by decide +kernel
theorem dX9_lose_78 : decode cX9_lose 78 = .ok (.iload 4, 2) := by decide +kernel
theorem dX9_lose_80 : decode cX9_lose 80 = .ok (.ireturn, 1) := by decide +kernel
theorem dX9_lacks_0 : decode cX9_lacks 0 = .ok (.iconst 0, 1) := by decide +kernel
theorem dX9_lacks_1 : decode cX9_lacks 1 = .ok (.istore_n 2, 1) := by decide +kernel
theorem dX9_lacks_2 : decode cX9_lacks 2 = .ok (.aload_n 0, 1) := by decide +kernel
theorem dX9_lacks_3 : decode cX9_lacks 3 = .ok (.iload_n 1, 1) := by decide +kernel
theorem dX9_lacks_4 : decode cX9_lacks 4 = .ok (.iconst 0, 1) := by decide +kernel
theorem dX9_lacks_5 : decode cX9_lacks 5 = .ok (.invokevirtual 64, 3) := by decide +kernel
theorem dX9_lacks_8 : decode cX9_lacks 8 = .ok (.iconst 2, 1) := by decide +kernel
theorem dX9_lacks_9 : decode cX9_lacks 9 = .ok (.idiv, 1) := by decide +kernel
theorem dX9_lacks_10 : decode cX9_lacks 10 = .ok (.istore_n 3, 1) := by decide +kernel
theorem dX9_lacks_11 : decode cX9_lacks 11 = .ok (.iload_n 3, 1) := by decide +kernel
theorem dX9_lacks_12 : decode cX9_lacks 12 = .ok (.ifCond .le 31, 3) := by decide +kernel
theorem dX9_lacks_15 : decode cX9_lacks 15 = .ok (.iload_n 2, 1) := by decide +kernel
theorem dX9_lacks_16 : decode cX9_lacks 16 = .ok (.aload_n 0, 1) := by decide +kernel
theorem dX9_lacks_17 : decode cX9_lacks 17 = .ok (.iload_n 1, 1) := by decide +kernel
theorem dX9_lacks_18 : decode cX9_lacks 18 = .ok (.aload_n 0, 1) := by decide +kernel
theorem dX9_lacks_19 : decode cX9_lacks 19 = .ok (.iload_n 3, 1) := by decide +kernel
theorem dX9_lacks_20 : decode cX9_lacks 20 = .ok (.invokevirtual 140, 3) := by decide +kernel
theorem dX9_lacks_23 : decode cX9_lacks 23 = .ok (.invokevirtual 117, 3) := by decide +kernel
theorem dX9_lacks_26 : decode cX9_lacks 26 = .ok (.ifCond .eq 7, 3) := by decide +kernel
theorem dX9_lacks_29 : decode cX9_lacks 29 = .ok (.iconst 0, 1) := by decide +kernel
theorem dX9_lacks_30 : decode cX9_lacks 30 = .ok (.goto 4, 3) := by decide +kernel
theorem dX9_lacks_33 : decode cX9_lacks 33 = .ok (.iconst 1, 1) := by decide +kernel
theorem dX9_lacks_34 : decode cX9_lacks 34 = .ok (.iadd, 1) := by decide +kernel
theorem dX9_lacks_35 : decode cX9_lacks 35 = .ok (.istore_n 2, 1) := by decide +kernel
theorem dX9_lacks_36 : decode cX9_lacks 36 = .ok (.iload_n 3, 1) := by decide +kernel
theorem dX9_lacks_37 : decode cX9_lacks 37 = .ok (.iconst 2, 1) := by decide +kernel
theorem dX9_lacks_38 : decode cX9_lacks 38 = .ok (.idiv, 1) := by decide +kernel
theorem dX9_lacks_39 : decode cX9_lacks 39 = .ok (.istore_n 3, 1) := by decide +kernel
theorem dX9_lacks_40 : decode cX9_lacks 40 = .ok (.goto (-29), 3) := by decide +kernel
theorem dX9_lacks_43 : decode cX9_lacks 43 = .ok (.iload_n 2, 1) := by decide +kernel
theorem dX9_lacks_44 : decode cX9_lacks 44 = .ok (.ireturn, 1) := by decide +kernel
theorem dX9_mendRefusal_0 : decode cX9_mendRefusal 0 = .ok (.aload_n 0, 1) := by decide +kernel
theorem dX9_mendRefusal_1 : decode cX9_mendRefusal 1 = .ok (.iload_n 1, 1) := by decide +kernel
theorem dX9_mendRefusal_2 : decode cX9_mendRefusal 2 = .ok (.invokevirtual 68, 3) := by decide +kernel
theorem dX9_mendRefusal_5 : decode cX9_mendRefusal 5 = .ok (.ifCond .eq 21, 3) := by decide +kernel
theorem dX9_mendRefusal_8 : decode cX9_mendRefusal 8 = .ok (.aload_n 0, 1) := by decide +kernel
theorem dX9_mendRefusal_9 : decode cX9_mendRefusal 9 = .ok (.iload_n 1, 1) := by decide +kernel
theorem dX9_mendRefusal_10 : decode cX9_mendRefusal 10 = .ok (.iconst 1, 1) := by decide +kernel
theorem dX9_mendRefusal_11 : decode cX9_mendRefusal 11 = .ok (.invokevirtual 64, 3) := by decide +kernel
theorem dX9_mendRefusal_14 : decode cX9_mendRefusal 14 = .ok (.iconst 1, 1) := by decide +kernel
theorem dX9_mendRefusal_15 : decode cX9_mendRefusal 15 = .ok (.if_icmp .eq 11, 3) := by decide +kernel
theorem dX9_mendRefusal_18 : decode cX9_mendRefusal 18 = .ok (.aload_n 0, 1) := by decide +kernel
theorem dX9_mendRefusal_19 : decode cX9_mendRefusal 19 = .ok (.iload_n 1, 1) := by decide +kernel
theorem dX9_mendRefusal_20 : decode cX9_mendRefusal 20 = .ok (.invokevirtual 157, 3) := by decide +kernel
theorem dX9_mendRefusal_23 : decode cX9_mendRefusal 23 = .ok (.ifCond .ne 8, 3) := by decide +kernel
theorem dX9_mendRefusal_26 : decode cX9_mendRefusal 26 = .ok (.bipush (-2), 2) := by decide +kernel
theorem dX9_mendRefusal_28 : decode cX9_mendRefusal 28 = .ok (.goto 16, 3) := by decide +kernel
theorem dX9_mendRefusal_31 : decode cX9_mendRefusal 31 = .ok (.aload_n 0, 1) := by decide +kernel
theorem dX9_mendRefusal_32 : decode cX9_mendRefusal 32 = .ok (.invokevirtual 126, 3) := by decide +kernel
theorem dX9_mendRefusal_35 : decode cX9_mendRefusal 35 = .ok (.ifCond .eq 8, 3) := by decide +kernel
theorem dX9_mendRefusal_38 : decode cX9_mendRefusal 38 = .ok (.bipush (-3), 2) := by decide +kernel
theorem dX9_mendRefusal_40 : decode cX9_mendRefusal 40 = .ok (.goto 4, 3) := by decide +kernel
theorem dX9_mendRefusal_43 : decode cX9_mendRefusal 43 = .ok (.iconst 0, 1) := by decide +kernel
theorem dX9_mendRefusal_44 : decode cX9_mendRefusal 44 = .ok (.ireturn, 1) := by decide +kernel
theorem dX9_mends_0 : decode cX9_mends 0 = .ok (.aload_n 0, 1) := by decide +kernel
theorem dX9_mends_1 : decode cX9_mends 1 = .ok (.getfield 7, 3) := by decide +kernel
theorem dX9_mends_4 : decode cX9_mends 4 = .ok (.iconst 1, 1) := by decide +kernel
theorem dX9_mends_5 : decode cX9_mends 5 = .ok (.iaload, 1) := by decide +kernel
theorem dX9_mends_6 : decode cX9_mends 6 = .ok (.istore_n 2, 1) := by decide +kernel
theorem dX9_mends_7 : decode cX9_mends 7 = .ok (.aload_n 0, 1) := by decide +kernel
theorem dX9_mends_8 : decode cX9_mends 8 = .ok (.iload_n 1, 1) := by decide +kernel
theorem dX9_mends_9 : decode cX9_mends 9 = .ok (.iconst 0, 1) := by decide +kernel
theorem dX9_mends_10 : decode cX9_mends 10 = .ok (.invokevirtual 64, 3) := by decide +kernel
theorem dX9_mends_13 : decode cX9_mends 13 = .ok (.iconst 2, 1) := by decide +kernel
theorem dX9_mends_14 : decode cX9_mends 14 = .ok (.idiv, 1) := by decide +kernel
theorem dX9_mends_15 : decode cX9_mends 15 = .ok (.istore_n 3, 1) := by decide +kernel
theorem dX9_mends_16 : decode cX9_mends 16 = .ok (.iload_n 3, 1) := by decide +kernel
theorem dX9_mends_17 : decode cX9_mends 17 = .ok (.ifCond .le 43, 3) := by decide +kernel
theorem dX9_mends_20 : decode cX9_mends 20 = .ok (.aload_n 0, 1) := by decide +kernel
theorem dX9_mends_21 : decode cX9_mends 21 = .ok (.iload_n 1, 1) := by decide +kernel
theorem dX9_mends_22 : decode cX9_mends 22 = .ok (.aload_n 0, 1) := by decide +kernel
theorem dX9_mends_23 : decode cX9_mends 23 = .ok (.iload_n 3, 1) := by decide +kernel
theorem dX9_mends_24 : decode cX9_mends 24 = .ok (.invokevirtual 140, 3) := by decide +kernel
theorem dX9_mends_27 : decode cX9_mends 27 = .ok (.invokevirtual 117, 3) := by decide +kernel
theorem dX9_mends_30 : decode cX9_mends 30 = .ok (.ifCond .ne 23, 3) := by decide +kernel
theorem dX9_mends_33 : decode cX9_mends 33 = .ok (.aload_n 0, 1) := by decide +kernel
theorem dX9_mends_34 : decode cX9_mends 34 = .ok (.aload_n 0, 1) := by decide +kernel
theorem dX9_mends_35 : decode cX9_mends 35 = .ok (.iload_n 3, 1) := by decide +kernel
theorem dX9_mends_36 : decode cX9_mends 36 = .ok (.invokevirtual 140, 3) := by decide +kernel
theorem dX9_mends_39 : decode cX9_mends 39 = .ok (.aload_n 0, 1) := by decide +kernel
theorem dX9_mends_40 : decode cX9_mends 40 = .ok (.aload_n 0, 1) := by decide +kernel
theorem dX9_mends_41 : decode cX9_mends 41 = .ok (.iload_n 1, 1) := by decide +kernel
theorem dX9_mends_42 : decode cX9_mends 42 = .ok (.iconst 0, 1) := by decide +kernel
theorem dX9_mends_43 : decode cX9_mends 43 = .ok (.invokevirtual 64, 3) := by decide +kernel
theorem dX9_mends_46 : decode cX9_mends 46 = .ok (.invokevirtual 140, 3) := by decide +kernel
theorem dX9_mends_49 : decode cX9_mends 49 = .ok (.iconst (-1), 1) := by decide +kernel
theorem dX9_mends_50 : decode cX9_mends 50 = .ok (.invokevirtual 143, 3) := by decide +kernel
theorem dX9_mends_53 : decode cX9_mends 53 = .ok (.iload_n 3, 1) := by decide +kernel
theorem dX9_mends_54 : decode cX9_mends 54 = .ok (.iconst 2, 1) := by decide +kernel
theorem dX9_mends_55 : decode cX9_mends 55 = .ok (.idiv, 1) := by decide +kernel
theorem dX9_mends_56 : decode cX9_mends 56 = .ok (.istore_n 3, 1) := by decide +kernel
theorem dX9_mends_57 : decode cX9_mends 57 = .ok (.goto (-41), 3) := by decide +kernel
theorem dX9_mends_60 : decode cX9_mends 60 = .ok (.aload_n 0, 1) := by decide +kernel
theorem dX9_mends_61 : decode cX9_mends 61 = .ok (.invokevirtual 146, 3) := by decide +kernel
theorem dX9_mends_64 : decode cX9_mends 64 = .ok (.aload_n 0, 1) := by decide +kernel
theorem dX9_mends_65 : decode cX9_mends 65 = .ok (.getfield 7, 3) := by decide +kernel
theorem dX9_mends_68 : decode cX9_mends 68 = .ok (.iconst 1, 1) := by decide +kernel
theorem dX9_mends_69 : decode cX9_mends 69 = .ok (.iaload, 1) := by decide +kernel
theorem dX9_mends_70 : decode cX9_mends 70 = .ok (.iload_n 2, 1) := by decide +kernel
theorem dX9_mends_71 : decode cX9_mends 71 = .ok (.isub, 1) := by decide +kernel
theorem dX9_mends_72 : decode cX9_mends 72 = .ok (.ireturn, 1) := by decide +kernel
theorem dX9_mend_0 : decode cX9_mend 0 = .ok (.iload_n 1, 1) := by decide +kernel
theorem dX9_mend_1 : decode cX9_mend 1 = .ok (.invokestatic 98, 3) := by decide +kernel
theorem dX9_mend_4 : decode cX9_mend 4 = .ok (.ifCond .ne 5, 3) := by decide +kernel
theorem dX9_mend_7 : decode cX9_mend 7 = .ok (.iconst (-1), 1) := by decide +kernel
theorem dX9_mend_8 : decode cX9_mend 8 = .ok (.ireturn, 1) := by decide +kernel
theorem dX9_mend_9 : decode cX9_mend 9 = .ok (.aload_n 0, 1) := by decide +kernel
theorem dX9_mend_10 : decode cX9_mend 10 = .ok (.iload_n 1, 1) := by decide +kernel
theorem dX9_mend_11 : decode cX9_mend 11 = .ok (.invokevirtual 160, 3) := by decide +kernel
theorem dX9_mend_14 : decode cX9_mend 14 = .ok (.istore_n 2, 1) := by decide +kernel
theorem dX9_mend_15 : decode cX9_mend 15 = .ok (.iload_n 2, 1) := by decide +kernel
theorem dX9_mend_16 : decode cX9_mend 16 = .ok (.ifCond .ge 5, 3) := by decide +kernel
theorem dX9_mend_19 : decode cX9_mend 19 = .ok (.iload_n 2, 1) := by decide +kernel
theorem dX9_mend_20 : decode cX9_mend 20 = .ok (.ireturn, 1) := by decide +kernel
theorem dX9_mend_21 : decode cX9_mend 21 = .ok (.aload_n 0, 1) := by decide +kernel
theorem dX9_mend_22 : decode cX9_mend 22 = .ok (.invokevirtual 101, 3) := by decide +kernel
theorem dX9_mend_25 : decode cX9_mend 25 = .ok (.aload_n 0, 1) := by decide +kernel
theorem dX9_mend_26 : decode cX9_mend 26 = .ok (.iload_n 1, 1) := by decide +kernel
theorem dX9_mend_27 : decode cX9_mend 27 = .ok (.invokevirtual 163, 3) := by decide +kernel
theorem dX9_mend_30 : decode cX9_mend 30 = .ok (.ireturn, 1) := by decide +kernel
theorem dX9_begin_0 : decode cX9_begin 0 = .ok (.aload_n 0, 1) := by decide +kernel
theorem dX9_begin_1 : decode cX9_begin 1 = .ok (.getfield 7, 3) := by decide +kernel
theorem dX9_begin_4 : decode cX9_begin 4 = .ok (.iconst 0, 1) := by decide +kernel
theorem dX9_begin_5 : decode cX9_begin 5 = .ok (.iaload, 1) := by decide +kernel
theorem dX9_begin_6 : decode cX9_begin 6 = .ok (.istore_n 1, 1) := by decide +kernel
theorem dX9_begin_7 : decode cX9_begin 7 = .ok (.iload_n 1, 1) := by decide +kernel
theorem dX9_begin_8 : decode cX9_begin 8 = .ok (.ifCond .ne 15, 3) := by decide +kernel
theorem dX9_begin_11 : decode cX9_begin 11 = .ok (.aload_n 0, 1) := by decide +kernel
theorem dX9_begin_12 : decode cX9_begin 12 = .ok (.iconst 3, 1) := by decide +kernel
theorem dX9_begin_13 : decode cX9_begin 13 = .ok (.iconst 1, 1) := by decide +kernel
theorem dX9_begin_14 : decode cX9_begin 14 = .ok (.invokevirtual 108, 3) := by decide +kernel
theorem dX9_begin_17 : decode cX9_begin 17 = .ok (.ifCond .ne 6, 3) := by decide +kernel
theorem dX9_begin_20 : decode cX9_begin 20 = .ok (.bipush (-2), 2) := by decide +kernel
theorem dX9_begin_22 : decode cX9_begin 22 = .ok (.ireturn, 1) := by decide +kernel
theorem dX9_begin_23 : decode cX9_begin 23 = .ok (.aload_n 0, 1) := by decide +kernel
theorem dX9_begin_24 : decode cX9_begin 24 = .ok (.invokevirtual 101, 3) := by decide +kernel
theorem dX9_begin_27 : decode cX9_begin 27 = .ok (.iconst 0, 1) := by decide +kernel
theorem dX9_begin_28 : decode cX9_begin 28 = .ok (.istore_n 2, 1) := by decide +kernel
theorem dX9_begin_29 : decode cX9_begin 29 = .ok (.iload_n 2, 1) := by decide +kernel
theorem dX9_begin_30 : decode cX9_begin 30 = .ok (.sipush 752, 3) := by decide +kernel
theorem dX9_begin_33 : decode cX9_begin 33 = .ok (.if_icmp .ge 30, 3) := by decide +kernel
theorem dX9_begin_36 : decode cX9_begin 36 = .ok (.aload_n 0, 1) := by decide +kernel
theorem dX9_begin_37 : decode cX9_begin 37 = .ok (.getfield 7, 3) := by decide +kernel
theorem dX9_begin_40 : decode cX9_begin 40 = .ok (.iload_n 2, 1) := by decide +kernel
theorem dX9_begin_41 : decode cX9_begin 41 = .ok (.iload_n 2, 1) := by decide +kernel
theorem dX9_begin_42 : decode cX9_begin 42 = .ok (.iconst 3, 1) := by decide +kernel
theorem dX9_begin_43 : decode cX9_begin 43 = .ok (.if_icmp .ne 12, 3) := by decide +kernel
theorem dX9_begin_46 : decode cX9_begin 46 = .ok (.aload_n 0, 1) := by decide +kernel
theorem dX9_begin_47 : decode cX9_begin 47 = .ok (.getfield 7, 3) := by decide +kernel
theorem dX9_begin_50 : decode cX9_begin 50 = .ok (.iload_n 2, 1) := by decide +kernel
theorem dX9_begin_51 : decode cX9_begin 51 = .ok (.iaload, 1) := by decide +kernel
theorem dX9_begin_52 : decode cX9_begin 52 = .ok (.goto 4, 3) := by decide +kernel
theorem dX9_begin_55 : decode cX9_begin 55 = .ok (.iconst 0, 1) := by decide +kernel
theorem dX9_begin_56 : decode cX9_begin 56 = .ok (.iastore, 1) := by decide +kernel
theorem dX9_begin_57 : decode cX9_begin 57 = .ok (.iinc 2 1, 3) := by decide +kernel
theorem dX9_begin_60 : decode cX9_begin 60 = .ok (.goto (-31), 3) := by decide +kernel
theorem dX9_begin_63 : decode cX9_begin 63 = .ok (.iload_n 1, 1) := by decide +kernel
theorem dX9_begin_64 : decode cX9_begin 64 = .ok (.ireturn, 1) := by decide +kernel
theorem dX9_lacking_0 : decode cX9_lacking 0 = .ok (.aload_n 0, 1) := by decide +kernel
theorem dX9_lacking_1 : decode cX9_lacking 1 = .ok (.iconst 1, 1) := by decide +kernel
theorem dX9_lacking_2 : decode cX9_lacking 2 = .ok (.invokevirtual 140, 3) := by decide +kernel
theorem dX9_lacking_5 : decode cX9_lacking 5 = .ok (.istore_n 1, 1) := by decide +kernel
theorem dX9_lacking_6 : decode cX9_lacking 6 = .ok (.iload_n 1, 1) := by decide +kernel
theorem dX9_lacking_7 : decode cX9_lacking 7 = .ok (.ifCond .ge 7, 3) := by decide +kernel
theorem dX9_lacking_10 : decode cX9_lacking 10 = .ok (.iconst 0, 1) := by decide +kernel
theorem dX9_lacking_11 : decode cX9_lacking 11 = .ok (.goto 22, 3) := by decide +kernel
theorem dX9_lacking_14 : decode cX9_lacking 14 = .ok (.aload_n 0, 1) := by decide +kernel
theorem dX9_lacking_15 : decode cX9_lacking 15 = .ok (.iconst 0, 1) := by decide +kernel
theorem dX9_lacking_16 : decode cX9_lacking 16 = .ok (.iconst 0, 1) := by decide +kernel
theorem dX9_lacking_17 : decode cX9_lacking 17 = .ok (.invokevirtual 108, 3) := by decide +kernel
theorem dX9_lacking_20 : decode cX9_lacking 20 = .ok (.aload_n 0, 1) := by decide +kernel
theorem dX9_lacking_21 : decode cX9_lacking 21 = .ok (.getfield 7, 3) := by decide +kernel
theorem dX9_lacking_24 : decode cX9_lacking 24 = .ok (.sipush 330, 3) := by decide +kernel
theorem dX9_lacking_27 : decode cX9_lacking 27 = .ok (.iload_n 1, 1) := by decide +kernel
theorem dX9_lacking_28 : decode cX9_lacking 28 = .ok (.iadd, 1) := by decide +kernel
theorem dX9_lacking_29 : decode cX9_lacking 29 = .ok (.iaload, 1) := by decide +kernel
theorem dX9_lacking_30 : decode cX9_lacking 30 = .ok (.iconst (-1), 1) := by decide +kernel
theorem dX9_lacking_31 : decode cX9_lacking 31 = .ok (.ixor, 1) := by decide +kernel
theorem dX9_lacking_32 : decode cX9_lacking 32 = .ok (.iand, 1) := by decide +kernel
theorem dX9_lacking_33 : decode cX9_lacking 33 = .ok (.ireturn, 1) := by decide +kernel
theorem dX9_count_0 : decode cX9_count 0 = .ok (.iload_n 1, 1) := by decide +kernel
theorem dX9_count_1 : decode cX9_count 1 = .ok (.tableswitch 110 0 8 #[51, 58, 65, 72, 79, 86, 93, 100, 105], 51) := by decide +kernel
theorem dX9_count_52 : decode cX9_count 52 = .ok (.aload_n 0, 1) := by decide +kernel
theorem dX9_count_53 : decode cX9_count 53 = .ok (.iconst 0, 1) := by decide +kernel
theorem dX9_count_54 : decode cX9_count 54 = .ok (.iconst 0, 1) := by decide +kernel
theorem dX9_count_55 : decode cX9_count 55 = .ok (.invokevirtual 108, 3) := by decide +kernel
theorem dX9_count_58 : decode cX9_count 58 = .ok (.ireturn, 1) := by decide +kernel
theorem dX9_count_59 : decode cX9_count 59 = .ok (.aload_n 0, 1) := by decide +kernel
theorem dX9_count_60 : decode cX9_count 60 = .ok (.iconst 3, 1) := by decide +kernel
theorem dX9_count_61 : decode cX9_count 61 = .ok (.iconst 1, 1) := by decide +kernel
theorem dX9_count_62 : decode cX9_count 62 = .ok (.invokevirtual 108, 3) := by decide +kernel
theorem dX9_count_65 : decode cX9_count 65 = .ok (.ireturn, 1) := by decide +kernel
theorem dX9_count_66 : decode cX9_count 66 = .ok (.aload_n 0, 1) := by decide +kernel
theorem dX9_count_67 : decode cX9_count 67 = .ok (.iconst 3, 1) := by decide +kernel
theorem dX9_count_68 : decode cX9_count 68 = .ok (.iconst 2, 1) := by decide +kernel
theorem dX9_count_69 : decode cX9_count 69 = .ok (.invokevirtual 108, 3) := by decide +kernel
theorem dX9_count_72 : decode cX9_count 72 = .ok (.ireturn, 1) := by decide +kernel
theorem dX9_count_73 : decode cX9_count 73 = .ok (.aload_n 0, 1) := by decide +kernel
theorem dX9_count_74 : decode cX9_count 74 = .ok (.iconst 1, 1) := by decide +kernel
theorem dX9_count_75 : decode cX9_count 75 = .ok (.iconst 1, 1) := by decide +kernel
theorem dX9_count_76 : decode cX9_count 76 = .ok (.invokevirtual 108, 3) := by decide +kernel
theorem dX9_count_79 : decode cX9_count 79 = .ok (.ireturn, 1) := by decide +kernel
theorem dX9_count_80 : decode cX9_count 80 = .ok (.aload_n 0, 1) := by decide +kernel
theorem dX9_count_81 : decode cX9_count 81 = .ok (.getfield 7, 3) := by decide +kernel
theorem dX9_count_84 : decode cX9_count 84 = .ok (.iconst 0, 1) := by decide +kernel
theorem dX9_count_85 : decode cX9_count 85 = .ok (.iaload, 1) := by decide +kernel
theorem dX9_count_86 : decode cX9_count 86 = .ok (.ireturn, 1) := by decide +kernel
theorem dX9_count_87 : decode cX9_count 87 = .ok (.aload_n 0, 1) := by decide +kernel
theorem dX9_count_88 : decode cX9_count 88 = .ok (.getfield 7, 3) := by decide +kernel
theorem dX9_count_91 : decode cX9_count 91 = .ok (.iconst 1, 1) := by decide +kernel
theorem dX9_count_92 : decode cX9_count 92 = .ok (.iaload, 1) := by decide +kernel
theorem dX9_count_93 : decode cX9_count 93 = .ok (.ireturn, 1) := by decide +kernel
theorem dX9_count_94 : decode cX9_count 94 = .ok (.aload_n 0, 1) := by decide +kernel
theorem dX9_count_95 : decode cX9_count 95 = .ok (.getfield 7, 3) := by decide +kernel
theorem dX9_count_98 : decode cX9_count 98 = .ok (.iconst 2, 1) := by decide +kernel
theorem dX9_count_99 : decode cX9_count 99 = .ok (.iaload, 1) := by decide +kernel
theorem dX9_count_100 : decode cX9_count 100 = .ok (.ireturn, 1) := by decide +kernel
theorem dX9_count_101 : decode cX9_count 101 = .ok (.aload_n 0, 1) := by decide +kernel
theorem dX9_count_102 : decode cX9_count 102 = .ok (.invokevirtual 166, 3) := by decide +kernel
theorem dX9_count_105 : decode cX9_count 105 = .ok (.ireturn, 1) := by decide +kernel
theorem dX9_count_106 : decode cX9_count 106 = .ok (.aload_n 0, 1) := by decide +kernel
theorem dX9_count_107 : decode cX9_count 107 = .ok (.getfield 169, 3) := by decide +kernel
theorem dX9_count_110 : decode cX9_count 110 = .ok (.ireturn, 1) := by decide +kernel
theorem dX9_count_111 : decode cX9_count 111 = .ok (.iconst (-1), 1) := by decide +kernel
theorem dX9_count_112 : decode cX9_count 112 = .ok (.ireturn, 1) := by decide +kernel
theorem dX9_held_0 : decode cX9_held 0 = .ok (.iconst 0, 1) := by decide +kernel
theorem dX9_held_1 : decode cX9_held 1 = .ok (.istore_n 2, 1) := by decide +kernel
theorem dX9_held_2 : decode cX9_held 2 = .ok (.iconst 0, 1) := by decide +kernel
theorem dX9_held_3 : decode cX9_held 3 = .ok (.istore_n 3, 1) := by decide +kernel
theorem dX9_held_4 : decode cX9_held 4 = .ok (.iload_n 3, 1) := by decide +kernel
theorem dX9_held_5 : decode cX9_held 5 = .ok (.aload_n 0, 1) := by decide +kernel
theorem dX9_held_6 : decode cX9_held 6 = .ok (.getfield 7, 3) := by decide +kernel
theorem dX9_held_9 : decode cX9_held 9 = .ok (.iconst 0, 1) := by decide +kernel
theorem dX9_held_10 : decode cX9_held 10 = .ok (.iaload, 1) := by decide +kernel
theorem dX9_held_11 : decode cX9_held 11 = .ok (.if_icmp .ge 26, 3) := by decide +kernel
theorem dX9_held_14 : decode cX9_held 14 = .ok (.iload_n 2, 1) := by decide +kernel
theorem dX9_held_15 : decode cX9_held 15 = .ok (.aload_n 0, 1) := by decide +kernel
theorem dX9_held_16 : decode cX9_held 16 = .ok (.iload_n 1, 1) := by decide +kernel
theorem dX9_held_17 : decode cX9_held 17 = .ok (.iload_n 3, 1) := by decide +kernel
theorem dX9_held_18 : decode cX9_held 18 = .ok (.invokevirtual 117, 3) := by decide +kernel
theorem dX9_held_21 : decode cX9_held 21 = .ok (.ifCond .eq 7, 3) := by decide +kernel
theorem dX9_held_24 : decode cX9_held 24 = .ok (.iconst 1, 1) := by decide +kernel
theorem dX9_held_25 : decode cX9_held 25 = .ok (.goto 4, 3) := by decide +kernel
theorem dX9_held_28 : decode cX9_held 28 = .ok (.iconst 0, 1) := by decide +kernel
theorem dX9_held_29 : decode cX9_held 29 = .ok (.iadd, 1) := by decide +kernel
theorem dX9_held_30 : decode cX9_held 30 = .ok (.istore_n 2, 1) := by decide +kernel
theorem dX9_held_31 : decode cX9_held 31 = .ok (.iinc 3 1, 3) := by decide +kernel
theorem dX9_held_34 : decode cX9_held 34 = .ok (.goto (-30), 3) := by decide +kernel
theorem dX9_held_37 : decode cX9_held 37 = .ok (.iload_n 2, 1) := by decide +kernel
theorem dX9_held_38 : decode cX9_held 38 = .ok (.ireturn, 1) := by decide +kernel
theorem dX9_member_0 : decode cX9_member 0 = .ok (.iload_n 1, 1) := by decide +kernel
theorem dX9_member_1 : decode cX9_member 1 = .ok (.invokestatic 98, 3) := by decide +kernel
theorem dX9_member_4 : decode cX9_member 4 = .ok (.ifCond .ne 5, 3) := by decide +kernel
theorem dX9_member_7 : decode cX9_member 7 = .ok (.iconst (-1), 1) := by decide +kernel
theorem dX9_member_8 : decode cX9_member 8 = .ok (.ireturn, 1) := by decide +kernel
theorem dX9_member_9 : decode cX9_member 9 = .ok (.aload_n 0, 1) := by decide +kernel
theorem dX9_member_10 : decode cX9_member 10 = .ok (.iconst 1, 1) := by decide +kernel
theorem dX9_member_11 : decode cX9_member 11 = .ok (.invokevirtual 140, 3) := by decide +kernel
theorem dX9_member_14 : decode cX9_member 14 = .ok (.istore_n 3, 1) := by decide +kernel
theorem dX9_member_15 : decode cX9_member 15 = .ok (.iload_n 2, 1) := by decide +kernel
theorem dX9_member_16 : decode cX9_member 16 = .ok (.tableswitch 131 0 5 #[40, 60, 66, 90, 97, 124], 40) := by decide +kernel
theorem dX9_member_56 : decode cX9_member 56 = .ok (.aload_n 0, 1) := by decide +kernel
theorem dX9_member_57 : decode cX9_member 57 = .ok (.iload_n 1, 1) := by decide +kernel
theorem dX9_member_58 : decode cX9_member 58 = .ok (.invokevirtual 68, 3) := by decide +kernel
theorem dX9_member_61 : decode cX9_member 61 = .ok (.ifCond .eq 12, 3) := by decide +kernel
theorem dX9_member_64 : decode cX9_member 64 = .ok (.aload_n 0, 1) := by decide +kernel
theorem dX9_member_65 : decode cX9_member 65 = .ok (.iload_n 1, 1) := by decide +kernel
theorem dX9_member_66 : decode cX9_member 66 = .ok (.iconst 0, 1) := by decide +kernel
theorem dX9_member_67 : decode cX9_member 67 = .ok (.invokevirtual 64, 3) := by decide +kernel
theorem dX9_member_70 : decode cX9_member 70 = .ok (.goto 5, 3) := by decide +kernel
theorem dX9_member_73 : decode cX9_member 73 = .ok (.bipush (-4), 2) := by decide +kernel
theorem dX9_member_75 : decode cX9_member 75 = .ok (.ireturn, 1) := by decide +kernel
theorem dX9_member_76 : decode cX9_member 76 = .ok (.aload_n 0, 1) := by decide +kernel
theorem dX9_member_77 : decode cX9_member 77 = .ok (.iload_n 1, 1) := by decide +kernel
theorem dX9_member_78 : decode cX9_member 78 = .ok (.invokevirtual 172, 3) := by decide +kernel
theorem dX9_member_81 : decode cX9_member 81 = .ok (.ireturn, 1) := by decide +kernel
theorem dX9_member_82 : decode cX9_member 82 = .ok (.iload_n 3, 1) := by decide +kernel
theorem dX9_member_83 : decode cX9_member 83 = .ok (.ifCond .ge 8, 3) := by decide +kernel
theorem dX9_member_86 : decode cX9_member 86 = .ok (.bipush (-4), 2) := by decide +kernel
theorem dX9_member_88 : decode cX9_member 88 = .ok (.goto 17, 3) := by decide +kernel
theorem dX9_member_91 : decode cX9_member 91 = .ok (.aload_n 0, 1) := by decide +kernel
theorem dX9_member_92 : decode cX9_member 92 = .ok (.iload_n 1, 1) := by decide +kernel
theorem dX9_member_93 : decode cX9_member 93 = .ok (.iload_n 3, 1) := by decide +kernel
theorem dX9_member_94 : decode cX9_member 94 = .ok (.invokevirtual 117, 3) := by decide +kernel
theorem dX9_member_97 : decode cX9_member 97 = .ok (.ifCond .eq 7, 3) := by decide +kernel
theorem dX9_member_100 : decode cX9_member 100 = .ok (.iconst 1, 1) := by decide +kernel
theorem dX9_member_101 : decode cX9_member 101 = .ok (.goto 4, 3) := by decide +kernel
theorem dX9_member_104 : decode cX9_member 104 = .ok (.iconst 0, 1) := by decide +kernel
theorem dX9_member_105 : decode cX9_member 105 = .ok (.ireturn, 1) := by decide +kernel
theorem dX9_member_106 : decode cX9_member 106 = .ok (.aload_n 0, 1) := by decide +kernel
theorem dX9_member_107 : decode cX9_member 107 = .ok (.iload_n 1, 1) := by decide +kernel
theorem dX9_member_108 : decode cX9_member 108 = .ok (.iconst 1, 1) := by decide +kernel
theorem dX9_member_109 : decode cX9_member 109 = .ok (.invokevirtual 64, 3) := by decide +kernel
theorem dX9_member_112 : decode cX9_member 112 = .ok (.ireturn, 1) := by decide +kernel
theorem dX9_member_113 : decode cX9_member 113 = .ok (.aload_n 0, 1) := by decide +kernel
theorem dX9_member_114 : decode cX9_member 114 = .ok (.iload_n 1, 1) := by decide +kernel
theorem dX9_member_115 : decode cX9_member 115 = .ok (.invokevirtual 68, 3) := by decide +kernel
theorem dX9_member_118 : decode cX9_member 118 = .ok (.ifCond .eq 19, 3) := by decide +kernel
theorem dX9_member_121 : decode cX9_member 121 = .ok (.aload_n 0, 1) := by decide +kernel
theorem dX9_member_122 : decode cX9_member 122 = .ok (.getfield 7, 3) := by decide +kernel
theorem dX9_member_125 : decode cX9_member 125 = .ok (.iconst 1, 1) := by decide +kernel
theorem dX9_member_126 : decode cX9_member 126 = .ok (.iaload, 1) := by decide +kernel
theorem dX9_member_127 : decode cX9_member 127 = .ok (.aload_n 0, 1) := by decide +kernel
theorem dX9_member_128 : decode cX9_member 128 = .ok (.iload_n 1, 1) := by decide +kernel
theorem dX9_member_129 : decode cX9_member 129 = .ok (.iconst 2, 1) := by decide +kernel
theorem dX9_member_130 : decode cX9_member 130 = .ok (.invokevirtual 64, 3) := by decide +kernel
theorem dX9_member_133 : decode cX9_member 133 = .ok (.isub, 1) := by decide +kernel
theorem dX9_member_134 : decode cX9_member 134 = .ok (.goto 5, 3) := by decide +kernel
theorem dX9_member_137 : decode cX9_member 137 = .ok (.bipush (-4), 2) := by decide +kernel
theorem dX9_member_139 : decode cX9_member 139 = .ok (.ireturn, 1) := by decide +kernel
theorem dX9_member_140 : decode cX9_member 140 = .ok (.aload_n 0, 1) := by decide +kernel
theorem dX9_member_141 : decode cX9_member 141 = .ok (.iload_n 1, 1) := by decide +kernel
theorem dX9_member_142 : decode cX9_member 142 = .ok (.iconst 3, 1) := by decide +kernel
theorem dX9_member_143 : decode cX9_member 143 = .ok (.invokevirtual 64, 3) := by decide +kernel
theorem dX9_member_146 : decode cX9_member 146 = .ok (.ireturn, 1) := by decide +kernel
theorem dX9_member_147 : decode cX9_member 147 = .ok (.iconst (-1), 1) := by decide +kernel
theorem dX9_member_148 : decode cX9_member 148 = .ok (.ireturn, 1) := by decide +kernel
theorem dX9_node_0 : decode cX9_node 0 = .ok (.iload_n 1, 1) := by decide +kernel
theorem dX9_node_1 : decode cX9_node 1 = .ok (.i2l, 1) := by decide +kernel
theorem dX9_node_2 : decode cX9_node 2 = .ok (.lconst 1, 1) := by decide +kernel
theorem dX9_node_3 : decode cX9_node 3 = .ok (.ldc2_w 175, 3) := by decide +kernel
theorem dX9_node_6 : decode cX9_node 6 = .ok (.invokestatic 60, 3) := by decide +kernel
theorem dX9_node_9 : decode cX9_node 9 = .ok (.ifCond .ne 5, 3) := by decide +kernel
theorem dX9_node_12 : decode cX9_node 12 = .ok (.iconst (-1), 1) := by decide +kernel
theorem dX9_node_13 : decode cX9_node 13 = .ok (.ireturn, 1) := by decide +kernel
theorem dX9_node_14 : decode cX9_node 14 = .ok (.aload_n 0, 1) := by decide +kernel
theorem dX9_node_15 : decode cX9_node 15 = .ok (.iload_n 1, 1) := by decide +kernel
theorem dX9_node_16 : decode cX9_node 16 = .ok (.invokevirtual 140, 3) := by decide +kernel
theorem dX9_node_19 : decode cX9_node 19 = .ok (.istore_n 3, 1) := by decide +kernel
theorem dX9_node_20 : decode cX9_node 20 = .ok (.iload_n 2, 1) := by decide +kernel
theorem dX9_node_21 : decode cX9_node 21 = .ok (.tableswitch 55 0 2 #[27, 29, 35], 27) := by decide +kernel
theorem dX9_node_48 : decode cX9_node 48 = .ok (.iload_n 3, 1) := by decide +kernel
theorem dX9_node_49 : decode cX9_node 49 = .ok (.ireturn, 1) := by decide +kernel
theorem dX9_node_50 : decode cX9_node 50 = .ok (.aload_n 0, 1) := by decide +kernel
theorem dX9_node_51 : decode cX9_node 51 = .ok (.iload_n 1, 1) := by decide +kernel
theorem dX9_node_52 : decode cX9_node 52 = .ok (.invokevirtual 84, 3) := by decide +kernel
theorem dX9_node_55 : decode cX9_node 55 = .ok (.ireturn, 1) := by decide +kernel
theorem dX9_node_56 : decode cX9_node 56 = .ok (.iload_n 3, 1) := by decide +kernel
theorem dX9_node_57 : decode cX9_node 57 = .ok (.ifCond .ge 8, 3) := by decide +kernel
theorem dX9_node_60 : decode cX9_node 60 = .ok (.bipush (-4), 2) := by decide +kernel
theorem dX9_node_62 : decode cX9_node 62 = .ok (.goto 13, 3) := by decide +kernel
theorem dX9_node_65 : decode cX9_node 65 = .ok (.aload_n 0, 1) := by decide +kernel
theorem dX9_node_66 : decode cX9_node 66 = .ok (.getfield 7, 3) := by decide +kernel
theorem dX9_node_69 : decode cX9_node 69 = .ok (.sipush 330, 3) := by decide +kernel
theorem dX9_node_72 : decode cX9_node 72 = .ok (.iload_n 3, 1) := by decide +kernel
theorem dX9_node_73 : decode cX9_node 73 = .ok (.iadd, 1) := by decide +kernel
theorem dX9_node_74 : decode cX9_node 74 = .ok (.iaload, 1) := by decide +kernel
theorem dX9_node_75 : decode cX9_node 75 = .ok (.ireturn, 1) := by decide +kernel
theorem dX9_node_76 : decode cX9_node 76 = .ok (.iconst (-1), 1) := by decide +kernel
theorem dX9_node_77 : decode cX9_node 77 = .ok (.ireturn, 1) := by decide +kernel
theorem dX9_isKey_0 : decode cX9_isKey 0 = .ok (.iload_n 1, 1) := by decide +kernel
theorem dX9_isKey_1 : decode cX9_isKey 1 = .ok (.i2l, 1) := by decide +kernel
theorem dX9_isKey_2 : decode cX9_isKey 2 = .ok (.lconst 0, 1) := by decide +kernel
theorem dX9_isKey_3 : decode cX9_isKey 3 = .ok (.aload_n 0, 1) := by decide +kernel
theorem dX9_isKey_4 : decode cX9_isKey 4 = .ok (.getfield 7, 3) := by decide +kernel
theorem dX9_isKey_7 : decode cX9_isKey 7 = .ok (.iconst 0, 1) := by decide +kernel
theorem dX9_isKey_8 : decode cX9_isKey 8 = .ok (.iaload, 1) := by decide +kernel
theorem dX9_isKey_9 : decode cX9_isKey 9 = .ok (.iconst 1, 1) := by decide +kernel
theorem dX9_isKey_10 : decode cX9_isKey 10 = .ok (.isub, 1) := by decide +kernel
theorem dX9_isKey_11 : decode cX9_isKey 11 = .ok (.i2l, 1) := by decide +kernel
theorem dX9_isKey_12 : decode cX9_isKey 12 = .ok (.invokestatic 60, 3) := by decide +kernel
theorem dX9_isKey_15 : decode cX9_isKey 15 = .ok (.ireturn, 1) := by decide +kernel
theorem dX9_isLetter_0 : decode cX9_isLetter 0 = .ok (.lload_n 1, 1) := by decide +kernel
theorem dX9_isLetter_1 : decode cX9_isLetter 1 = .ok (.lconst 0, 1) := by decide +kernel
theorem dX9_isLetter_2 : decode cX9_isLetter 2 = .ok (.aload_n 0, 1) := by decide +kernel
theorem dX9_isLetter_3 : decode cX9_isLetter 3 = .ok (.getfield 7, 3) := by decide +kernel
theorem dX9_isLetter_6 : decode cX9_isLetter 6 = .ok (.iconst 1, 1) := by decide +kernel
theorem dX9_isLetter_7 : decode cX9_isLetter 7 = .ok (.iaload, 1) := by decide +kernel
theorem dX9_isLetter_8 : decode cX9_isLetter 8 = .ok (.iconst 1, 1) := by decide +kernel
theorem dX9_isLetter_9 : decode cX9_isLetter 9 = .ok (.isub, 1) := by decide +kernel
theorem dX9_isLetter_10 : decode cX9_isLetter 10 = .ok (.i2l, 1) := by decide +kernel
theorem dX9_isLetter_11 : decode cX9_isLetter 11 = .ok (.invokestatic 60, 3) := by decide +kernel
theorem dX9_isLetter_14 : decode cX9_isLetter 14 = .ok (.ireturn, 1) := by decide +kernel
theorem dX9_key_0 : decode cX9_key 0 = .ok (.aload_n 0, 1) := by decide +kernel
theorem dX9_key_1 : decode cX9_key 1 = .ok (.iload_n 1, 1) := by decide +kernel
theorem dX9_key_2 : decode cX9_key 2 = .ok (.invokevirtual 177, 3) := by decide +kernel
theorem dX9_key_5 : decode cX9_key 5 = .ok (.ifCond .ne 5, 3) := by decide +kernel
theorem dX9_key_8 : decode cX9_key 8 = .ok (.iconst (-1), 1) := by decide +kernel
theorem dX9_key_9 : decode cX9_key 9 = .ok (.ireturn, 1) := by decide +kernel
theorem dX9_key_10 : decode cX9_key 10 = .ok (.iload_n 2, 1) := by decide +kernel
theorem dX9_key_11 : decode cX9_key 11 = .ok (.tableswitch 71 0 3 #[29, 35, 41, 60], 29) := by decide +kernel
theorem dX9_key_40 : decode cX9_key 40 = .ok (.aload_n 0, 1) := by decide +kernel
theorem dX9_key_41 : decode cX9_key 41 = .ok (.iload_n 1, 1) := by decide +kernel
theorem dX9_key_42 : decode cX9_key 42 = .ok (.invokevirtual 80, 3) := by decide +kernel
theorem dX9_key_45 : decode cX9_key 45 = .ok (.ireturn, 1) := by decide +kernel
theorem dX9_key_46 : decode cX9_key 46 = .ok (.aload_n 0, 1) := by decide +kernel
theorem dX9_key_47 : decode cX9_key 47 = .ok (.iload_n 1, 1) := by decide +kernel
theorem dX9_key_48 : decode cX9_key 48 = .ok (.invokevirtual 180, 3) := by decide +kernel
theorem dX9_key_51 : decode cX9_key 51 = .ok (.ireturn, 1) := by decide +kernel
theorem dX9_key_52 : decode cX9_key 52 = .ok (.aload_n 0, 1) := by decide +kernel
theorem dX9_key_53 : decode cX9_key 53 = .ok (.aload_n 0, 1) := by decide +kernel
theorem dX9_key_54 : decode cX9_key 54 = .ok (.iload_n 1, 1) := by decide +kernel
theorem dX9_key_55 : decode cX9_key 55 = .ok (.invokevirtual 80, 3) := by decide +kernel
theorem dX9_key_58 : decode cX9_key 58 = .ok (.invokevirtual 140, 3) := by decide +kernel
theorem dX9_key_61 : decode cX9_key 61 = .ok (.iload_n 1, 1) := by decide +kernel
theorem dX9_key_62 : decode cX9_key 62 = .ok (.if_icmp .ne 7, 3) := by decide +kernel
theorem dX9_key_65 : decode cX9_key 65 = .ok (.iconst 1, 1) := by decide +kernel
theorem dX9_key_66 : decode cX9_key 66 = .ok (.goto 4, 3) := by decide +kernel
theorem dX9_key_69 : decode cX9_key 69 = .ok (.iconst 0, 1) := by decide +kernel
theorem dX9_key_70 : decode cX9_key 70 = .ok (.ireturn, 1) := by decide +kernel
theorem dX9_key_71 : decode cX9_key 71 = .ok (.aload_n 0, 1) := by decide +kernel
theorem dX9_key_72 : decode cX9_key 72 = .ok (.getfield 7, 3) := by decide +kernel
theorem dX9_key_75 : decode cX9_key 75 = .ok (.sipush 330, 3) := by decide +kernel
theorem dX9_key_78 : decode cX9_key 78 = .ok (.iload_n 1, 1) := by decide +kernel
theorem dX9_key_79 : decode cX9_key 79 = .ok (.iadd, 1) := by decide +kernel
theorem dX9_key_80 : decode cX9_key 80 = .ok (.iaload, 1) := by decide +kernel
theorem dX9_key_81 : decode cX9_key 81 = .ok (.ireturn, 1) := by decide +kernel
theorem dX9_key_82 : decode cX9_key 82 = .ok (.iconst (-1), 1) := by decide +kernel
theorem dX9_key_83 : decode cX9_key 83 = .ok (.ireturn, 1) := by decide +kernel
theorem dX9_letter_0 : decode cX9_letter 0 = .ok (.aload_n 0, 1) := by decide +kernel
theorem dX9_letter_1 : decode cX9_letter 1 = .ok (.iload_n 1, 1) := by decide +kernel
theorem dX9_letter_2 : decode cX9_letter 2 = .ok (.i2l, 1) := by decide +kernel
theorem dX9_letter_3 : decode cX9_letter 3 = .ok (.invokevirtual 183, 3) := by decide +kernel
theorem dX9_letter_6 : decode cX9_letter 6 = .ok (.ifCond .ne 5, 3) := by decide +kernel
theorem dX9_letter_9 : decode cX9_letter 9 = .ok (.iconst (-1), 1) := by decide +kernel
theorem dX9_letter_10 : decode cX9_letter 10 = .ok (.ireturn, 1) := by decide +kernel
theorem dX9_letter_11 : decode cX9_letter 11 = .ok (.iload_n 2, 1) := by decide +kernel
theorem dX9_letter_12 : decode cX9_letter 12 = .ok (.tableswitch 59 0 2 #[28, 34, 40], 28) := by decide +kernel
theorem dX9_letter_40 : decode cX9_letter 40 = .ok (.aload_n 0, 1) := by decide +kernel
theorem dX9_letter_41 : decode cX9_letter 41 = .ok (.iload_n 1, 1) := by decide +kernel
theorem dX9_letter_42 : decode cX9_letter 42 = .ok (.invokevirtual 120, 3) := by decide +kernel
theorem dX9_letter_45 : decode cX9_letter 45 = .ok (.ireturn, 1) := by decide +kernel
theorem dX9_letter_46 : decode cX9_letter 46 = .ok (.aload_n 0, 1) := by decide +kernel
theorem dX9_letter_47 : decode cX9_letter 47 = .ok (.iload_n 1, 1) := by decide +kernel
theorem dX9_letter_48 : decode cX9_letter 48 = .ok (.invokevirtual 114, 3) := by decide +kernel
theorem dX9_letter_51 : decode cX9_letter 51 = .ok (.ireturn, 1) := by decide +kernel
theorem dX9_letter_52 : decode cX9_letter 52 = .ok (.aload_n 0, 1) := by decide +kernel
theorem dX9_letter_53 : decode cX9_letter 53 = .ok (.iload_n 1, 1) := by decide +kernel
end
section
theorem dX9_letter_54 : decode cX9_letter 54 = .ok (.invokevirtual 187, 3) := by decide +kernel
theorem dX9_letter_57 : decode cX9_letter 57 = .ok (.ifCond .ge 8, 3) := by decide +kernel
theorem dX9_letter_60 : decode cX9_letter 60 = .ok (.bipush (-4), 2) := by decide +kernel
theorem dX9_letter_62 : decode cX9_letter 62 = .ok (.goto 8, 3) := by decide +kernel
theorem dX9_letter_65 : decode cX9_letter 65 = .ok (.aload_n 0, 1) := by decide +kernel
theorem dX9_letter_66 : decode cX9_letter 66 = .ok (.iload_n 1, 1) := by decide +kernel
theorem dX9_letter_67 : decode cX9_letter 67 = .ok (.invokevirtual 187, 3) := by decide +kernel
theorem dX9_letter_70 : decode cX9_letter 70 = .ok (.ireturn, 1) := by decide +kernel
theorem dX9_letter_71 : decode cX9_letter 71 = .ok (.iconst (-1), 1) := by decide +kernel
theorem dX9_letter_72 : decode cX9_letter 72 = .ok (.ireturn, 1) := by decide +kernel
theorem dX9_why_0 : decode cX9_why 0 = .ok (.iload_n 1, 1) := by decide +kernel
theorem dX9_why_1 : decode cX9_why 1 = .ok (.invokestatic 98, 3) := by decide +kernel
theorem dX9_why_4 : decode cX9_why 4 = .ok (.ifCond .eq 12, 3) := by decide +kernel
theorem dX9_why_7 : decode cX9_why 7 = .ok (.aload_n 0, 1) := by decide +kernel
theorem dX9_why_8 : decode cX9_why 8 = .ok (.iload_n 2, 1) := by decide +kernel
theorem dX9_why_9 : decode cX9_why 9 = .ok (.i2l, 1) := by decide +kernel
theorem dX9_why_10 : decode cX9_why 10 = .ok (.invokevirtual 183, 3) := by decide +kernel
theorem dX9_why_13 : decode cX9_why 13 = .ok (.ifCond .ne 5, 3) := by decide +kernel
theorem dX9_why_16 : decode cX9_why 16 = .ok (.iconst (-1), 1) := by decide +kernel
theorem dX9_why_17 : decode cX9_why 17 = .ok (.ireturn, 1) := by decide +kernel
theorem dX9_why_18 : decode cX9_why 18 = .ok (.aload_n 0, 1) := by decide +kernel
theorem dX9_why_19 : decode cX9_why 19 = .ok (.iload_n 2, 1) := by decide +kernel
theorem dX9_why_20 : decode cX9_why 20 = .ok (.invokevirtual 114, 3) := by decide +kernel
theorem dX9_why_23 : decode cX9_why 23 = .ok (.istore_n 3, 1) := by decide +kernel
theorem dX9_why_24 : decode cX9_why 24 = .ok (.aload_n 0, 1) := by decide +kernel
theorem dX9_why_25 : decode cX9_why 25 = .ok (.iload_n 1, 1) := by decide +kernel
theorem dX9_why_26 : decode cX9_why 26 = .ok (.iload_n 3, 1) := by decide +kernel
theorem dX9_why_27 : decode cX9_why 27 = .ok (.invokevirtual 117, 3) := by decide +kernel
theorem dX9_why_30 : decode cX9_why 30 = .ok (.ifCond .eq 5, 3) := by decide +kernel
theorem dX9_why_33 : decode cX9_why 33 = .ok (.iconst 0, 1) := by decide +kernel
theorem dX9_why_34 : decode cX9_why 34 = .ok (.ireturn, 1) := by decide +kernel
theorem dX9_why_35 : decode cX9_why 35 = .ok (.aload_n 0, 1) := by decide +kernel
theorem dX9_why_36 : decode cX9_why 36 = .ok (.iload_n 1, 1) := by decide +kernel
theorem dX9_why_37 : decode cX9_why 37 = .ok (.iconst 4, 1) := by decide +kernel
theorem dX9_why_38 : decode cX9_why 38 = .ok (.invokevirtual 64, 3) := by decide +kernel
theorem dX9_why_41 : decode cX9_why 41 = .ok (.ifCond .ne 5, 3) := by decide +kernel
theorem dX9_why_44 : decode cX9_why 44 = .ok (.iconst 1, 1) := by decide +kernel
theorem dX9_why_45 : decode cX9_why 45 = .ok (.ireturn, 1) := by decide +kernel
theorem dX9_why_46 : decode cX9_why 46 = .ok (.aload_n 0, 1) := by decide +kernel
theorem dX9_why_47 : decode cX9_why 47 = .ok (.iload_n 3, 1) := by decide +kernel
theorem dX9_why_48 : decode cX9_why 48 = .ok (.invokevirtual 180, 3) := by decide +kernel
theorem dX9_why_51 : decode cX9_why 51 = .ok (.aload_n 0, 1) := by decide +kernel
theorem dX9_why_52 : decode cX9_why 52 = .ok (.iload_n 1, 1) := by decide +kernel
theorem dX9_why_53 : decode cX9_why 53 = .ok (.iconst 4, 1) := by decide +kernel
theorem dX9_why_54 : decode cX9_why 54 = .ok (.invokevirtual 64, 3) := by decide +kernel
theorem dX9_why_57 : decode cX9_why 57 = .ok (.iconst 1, 1) := by decide +kernel
theorem dX9_why_58 : decode cX9_why 58 = .ok (.isub, 1) := by decide +kernel
theorem dX9_why_59 : decode cX9_why 59 = .ok (.if_icmp .ge 5, 3) := by decide +kernel
theorem dX9_why_62 : decode cX9_why 62 = .ok (.iconst 2, 1) := by decide +kernel
theorem dX9_why_63 : decode cX9_why 63 = .ok (.ireturn, 1) := by decide +kernel
theorem dX9_why_64 : decode cX9_why 64 = .ok (.aload_n 0, 1) := by decide +kernel
theorem dX9_why_65 : decode cX9_why 65 = .ok (.iload_n 1, 1) := by decide +kernel
theorem dX9_why_66 : decode cX9_why 66 = .ok (.invokevirtual 68, 3) := by decide +kernel
theorem dX9_why_69 : decode cX9_why 69 = .ok (.ifCond .ne 23, 3) := by decide +kernel
theorem dX9_why_72 : decode cX9_why 72 = .ok (.aload_n 0, 1) := by decide +kernel
theorem dX9_why_73 : decode cX9_why 73 = .ok (.iload_n 3, 1) := by decide +kernel
theorem dX9_why_74 : decode cX9_why 74 = .ok (.invokevirtual 180, 3) := by decide +kernel
theorem dX9_why_77 : decode cX9_why 77 = .ok (.aload_n 0, 1) := by decide +kernel
theorem dX9_why_78 : decode cX9_why 78 = .ok (.iload_n 1, 1) := by decide +kernel
theorem dX9_why_79 : decode cX9_why 79 = .ok (.iconst 5, 1) := by decide +kernel
theorem dX9_why_80 : decode cX9_why 80 = .ok (.invokevirtual 64, 3) := by decide +kernel
theorem dX9_why_83 : decode cX9_why 83 = .ok (.iconst 1, 1) := by decide +kernel
theorem dX9_why_84 : decode cX9_why 84 = .ok (.isub, 1) := by decide +kernel
theorem dX9_why_85 : decode cX9_why 85 = .ok (.if_icmp .lt 7, 3) := by decide +kernel
theorem dX9_why_88 : decode cX9_why 88 = .ok (.iconst 3, 1) := by decide +kernel
theorem dX9_why_89 : decode cX9_why 89 = .ok (.goto 4, 3) := by decide +kernel
theorem dX9_why_92 : decode cX9_why 92 = .ok (.iconst 4, 1) := by decide +kernel
theorem dX9_why_93 : decode cX9_why 93 = .ok (.ireturn, 1) := by decide +kernel
theorem dX9_opensAll_0 : decode cX9_opensAll 0 = .ok (.iconst 0, 1) := by decide +kernel
theorem dX9_opensAll_1 : decode cX9_opensAll 1 = .ok (.istore_n 2, 1) := by decide +kernel
theorem dX9_opensAll_2 : decode cX9_opensAll 2 = .ok (.iload_n 2, 1) := by decide +kernel
theorem dX9_opensAll_3 : decode cX9_opensAll 3 = .ok (.aload_n 0, 1) := by decide +kernel
theorem dX9_opensAll_4 : decode cX9_opensAll 4 = .ok (.getfield 7, 3) := by decide +kernel
theorem dX9_opensAll_7 : decode cX9_opensAll 7 = .ok (.iconst 0, 1) := by decide +kernel
theorem dX9_opensAll_8 : decode cX9_opensAll 8 = .ok (.iaload, 1) := by decide +kernel
theorem dX9_opensAll_9 : decode cX9_opensAll 9 = .ok (.if_icmp .ge 35, 3) := by decide +kernel
theorem dX9_opensAll_12 : decode cX9_opensAll 12 = .ok (.aload_n 0, 1) := by decide +kernel
theorem dX9_opensAll_13 : decode cX9_opensAll 13 = .ok (.getfield 23, 3) := by decide +kernel
theorem dX9_opensAll_16 : decode cX9_opensAll 16 = .ok (.iload_n 2, 1) := by decide +kernel
theorem dX9_opensAll_17 : decode cX9_opensAll 17 = .ok (.aload_n 0, 1) := by decide +kernel
theorem dX9_opensAll_18 : decode cX9_opensAll 18 = .ok (.getfield 7, 3) := by decide +kernel
theorem dX9_opensAll_21 : decode cX9_opensAll 21 = .ok (.sipush 330, 3) := by decide +kernel
theorem dX9_opensAll_24 : decode cX9_opensAll 24 = .ok (.iload_n 2, 1) := by decide +kernel
theorem dX9_opensAll_25 : decode cX9_opensAll 25 = .ok (.iadd, 1) := by decide +kernel
theorem dX9_opensAll_26 : decode cX9_opensAll 26 = .ok (.iaload, 1) := by decide +kernel
theorem dX9_opensAll_27 : decode cX9_opensAll 27 = .ok (.iload_n 1, 1) := by decide +kernel
theorem dX9_opensAll_28 : decode cX9_opensAll 28 = .ok (.iand, 1) := by decide +kernel
theorem dX9_opensAll_29 : decode cX9_opensAll 29 = .ok (.ifCond .eq 7, 3) := by decide +kernel
theorem dX9_opensAll_32 : decode cX9_opensAll 32 = .ok (.iconst 1, 1) := by decide +kernel
theorem dX9_opensAll_33 : decode cX9_opensAll 33 = .ok (.goto 4, 3) := by decide +kernel
theorem dX9_opensAll_36 : decode cX9_opensAll 36 = .ok (.iconst 0, 1) := by decide +kernel
theorem dX9_opensAll_37 : decode cX9_opensAll 37 = .ok (.bastore, 1) := by decide +kernel
theorem dX9_opensAll_38 : decode cX9_opensAll 38 = .ok (.iinc 2 1, 3) := by decide +kernel
theorem dX9_opensAll_41 : decode cX9_opensAll 41 = .ok (.goto (-39), 3) := by decide +kernel
theorem dX9_opensAll_44 : decode cX9_opensAll 44 = .ok (.iconst 1, 1) := by decide +kernel
theorem dX9_opensAll_45 : decode cX9_opensAll 45 = .ok (.istore_n 2, 1) := by decide +kernel
theorem dX9_opensAll_46 : decode cX9_opensAll 46 = .ok (.iconst 0, 1) := by decide +kernel
theorem dX9_opensAll_47 : decode cX9_opensAll 47 = .ok (.istore_n 3, 1) := by decide +kernel
theorem dX9_opensAll_48 : decode cX9_opensAll 48 = .ok (.iload_n 3, 1) := by decide +kernel
theorem dX9_opensAll_49 : decode cX9_opensAll 49 = .ok (.sipush 230, 3) := by decide +kernel
theorem dX9_opensAll_52 : decode cX9_opensAll 52 = .ok (.if_icmp .ge 120, 3) := by decide +kernel
theorem dX9_opensAll_55 : decode cX9_opensAll 55 = .ok (.iload_n 2, 1) := by decide +kernel
theorem dX9_opensAll_56 : decode cX9_opensAll 56 = .ok (.ifCond .eq 116, 3) := by decide +kernel
theorem dX9_opensAll_59 : decode cX9_opensAll 59 = .ok (.iconst 0, 1) := by decide +kernel
theorem dX9_opensAll_60 : decode cX9_opensAll 60 = .ok (.istore_n 2, 1) := by decide +kernel
theorem dX9_opensAll_61 : decode cX9_opensAll 61 = .ok (.iconst 0, 1) := by decide +kernel
theorem dX9_opensAll_62 : decode cX9_opensAll 62 = .ok (.istore 4, 2) := by decide +kernel
theorem dX9_opensAll_64 : decode cX9_opensAll 64 = .ok (.iload 4, 2) := by decide +kernel
theorem dX9_opensAll_66 : decode cX9_opensAll 66 = .ok (.aload_n 0, 1) := by decide +kernel
theorem dX9_opensAll_67 : decode cX9_opensAll 67 = .ok (.getfield 7, 3) := by decide +kernel
theorem dX9_opensAll_70 : decode cX9_opensAll 70 = .ok (.iconst 1, 1) := by decide +kernel
theorem dX9_opensAll_71 : decode cX9_opensAll 71 = .ok (.iaload, 1) := by decide +kernel
theorem dX9_opensAll_72 : decode cX9_opensAll 72 = .ok (.if_icmp .ge 94, 3) := by decide +kernel
theorem dX9_opensAll_75 : decode cX9_opensAll 75 = .ok (.aload_n 0, 1) := by decide +kernel
theorem dX9_opensAll_76 : decode cX9_opensAll 76 = .ok (.getfield 23, 3) := by decide +kernel
theorem dX9_opensAll_79 : decode cX9_opensAll 79 = .ok (.aload_n 0, 1) := by decide +kernel
theorem dX9_opensAll_80 : decode cX9_opensAll 80 = .ok (.iload 4, 2) := by decide +kernel
theorem dX9_opensAll_82 : decode cX9_opensAll 82 = .ok (.invokevirtual 114, 3) := by decide +kernel
theorem dX9_opensAll_85 : decode cX9_opensAll 85 = .ok (.baload, 1) := by decide +kernel
theorem dX9_opensAll_86 : decode cX9_opensAll 86 = .ok (.ifCond .eq 21, 3) := by decide +kernel
theorem dX9_opensAll_89 : decode cX9_opensAll 89 = .ok (.aload_n 0, 1) := by decide +kernel
theorem dX9_opensAll_90 : decode cX9_opensAll 90 = .ok (.getfield 23, 3) := by decide +kernel
theorem dX9_opensAll_93 : decode cX9_opensAll 93 = .ok (.aload_n 0, 1) := by decide +kernel
theorem dX9_opensAll_94 : decode cX9_opensAll 94 = .ok (.iload 4, 2) := by decide +kernel
theorem dX9_opensAll_96 : decode cX9_opensAll 96 = .ok (.invokevirtual 120, 3) := by decide +kernel
theorem dX9_opensAll_99 : decode cX9_opensAll 99 = .ok (.baload, 1) := by decide +kernel
theorem dX9_opensAll_100 : decode cX9_opensAll 100 = .ok (.ifCond .ne 7, 3) := by decide +kernel
theorem dX9_opensAll_103 : decode cX9_opensAll 103 = .ok (.iconst 1, 1) := by decide +kernel
theorem dX9_opensAll_104 : decode cX9_opensAll 104 = .ok (.goto 4, 3) := by decide +kernel
theorem dX9_opensAll_107 : decode cX9_opensAll 107 = .ok (.iconst 0, 1) := by decide +kernel
theorem dX9_opensAll_108 : decode cX9_opensAll 108 = .ok (.istore 5, 2) := by decide +kernel
theorem dX9_opensAll_110 : decode cX9_opensAll 110 = .ok (.aload_n 0, 1) := by decide +kernel
theorem dX9_opensAll_111 : decode cX9_opensAll 111 = .ok (.getfield 23, 3) := by decide +kernel
theorem dX9_opensAll_114 : decode cX9_opensAll 114 = .ok (.aload_n 0, 1) := by decide +kernel
theorem dX9_opensAll_115 : decode cX9_opensAll 115 = .ok (.iload 4, 2) := by decide +kernel
theorem dX9_opensAll_117 : decode cX9_opensAll 117 = .ok (.invokevirtual 120, 3) := by decide +kernel
theorem dX9_opensAll_120 : decode cX9_opensAll 120 = .ok (.aload_n 0, 1) := by decide +kernel
theorem dX9_opensAll_121 : decode cX9_opensAll 121 = .ok (.getfield 23, 3) := by decide +kernel
theorem dX9_opensAll_124 : decode cX9_opensAll 124 = .ok (.aload_n 0, 1) := by decide +kernel
theorem dX9_opensAll_125 : decode cX9_opensAll 125 = .ok (.iload 4, 2) := by decide +kernel
theorem dX9_opensAll_127 : decode cX9_opensAll 127 = .ok (.invokevirtual 120, 3) := by decide +kernel
theorem dX9_opensAll_130 : decode cX9_opensAll 130 = .ok (.baload, 1) := by decide +kernel
theorem dX9_opensAll_131 : decode cX9_opensAll 131 = .ok (.ifCond .ne 8, 3) := by decide +kernel
theorem dX9_opensAll_134 : decode cX9_opensAll 134 = .ok (.iload 5, 2) := by decide +kernel
theorem dX9_opensAll_136 : decode cX9_opensAll 136 = .ok (.ifCond .eq 7, 3) := by decide +kernel
theorem dX9_opensAll_139 : decode cX9_opensAll 139 = .ok (.iconst 1, 1) := by decide +kernel
theorem dX9_opensAll_140 : decode cX9_opensAll 140 = .ok (.goto 4, 3) := by decide +kernel
theorem dX9_opensAll_143 : decode cX9_opensAll 143 = .ok (.iconst 0, 1) := by decide +kernel
theorem dX9_opensAll_144 : decode cX9_opensAll 144 = .ok (.bastore, 1) := by decide +kernel
theorem dX9_opensAll_145 : decode cX9_opensAll 145 = .ok (.iload_n 2, 1) := by decide +kernel
theorem dX9_opensAll_146 : decode cX9_opensAll 146 = .ok (.ifCond .ne 8, 3) := by decide +kernel
theorem dX9_opensAll_149 : decode cX9_opensAll 149 = .ok (.iload 5, 2) := by decide +kernel
theorem dX9_opensAll_151 : decode cX9_opensAll 151 = .ok (.ifCond .eq 7, 3) := by decide +kernel
theorem dX9_opensAll_154 : decode cX9_opensAll 154 = .ok (.iconst 1, 1) := by decide +kernel
theorem dX9_opensAll_155 : decode cX9_opensAll 155 = .ok (.goto 4, 3) := by decide +kernel
theorem dX9_opensAll_158 : decode cX9_opensAll 158 = .ok (.iconst 0, 1) := by decide +kernel
theorem dX9_opensAll_159 : decode cX9_opensAll 159 = .ok (.istore_n 2, 1) := by decide +kernel
theorem dX9_opensAll_160 : decode cX9_opensAll 160 = .ok (.iinc 4 1, 3) := by decide +kernel
theorem dX9_opensAll_163 : decode cX9_opensAll 163 = .ok (.goto (-99), 3) := by decide +kernel
theorem dX9_opensAll_166 : decode cX9_opensAll 166 = .ok (.iinc 3 1, 3) := by decide +kernel
theorem dX9_opensAll_169 : decode cX9_opensAll 169 = .ok (.goto (-121), 3) := by decide +kernel
theorem dX9_opensAll_172 : decode cX9_opensAll 172 = .ok (.return_, 1) := by decide +kernel
theorem dX9_opens_0 : decode cX9_opens 0 = .ok (.iload_n 1, 1) := by decide +kernel
theorem dX9_opens_1 : decode cX9_opens 1 = .ok (.i2l, 1) := by decide +kernel
theorem dX9_opens_2 : decode cX9_opens 2 = .ok (.lconst 0, 1) := by decide +kernel
theorem dX9_opens_3 : decode cX9_opens 3 = .ok (.ldc2_w 190, 3) := by decide +kernel
theorem dX9_opens_6 : decode cX9_opens 6 = .ok (.invokestatic 60, 3) := by decide +kernel
theorem dX9_opens_9 : decode cX9_opens 9 = .ok (.ifCond .eq 11, 3) := by decide +kernel
theorem dX9_opens_12 : decode cX9_opens 12 = .ok (.aload_n 0, 1) := by decide +kernel
theorem dX9_opens_13 : decode cX9_opens 13 = .ok (.iload_n 2, 1) := by decide +kernel
theorem dX9_opens_14 : decode cX9_opens 14 = .ok (.invokevirtual 177, 3) := by decide +kernel
theorem dX9_opens_17 : decode cX9_opens 17 = .ok (.ifCond .ne 5, 3) := by decide +kernel
theorem dX9_opens_20 : decode cX9_opens 20 = .ok (.iconst (-1), 1) := by decide +kernel
theorem dX9_opens_21 : decode cX9_opens 21 = .ok (.ireturn, 1) := by decide +kernel
theorem dX9_opens_22 : decode cX9_opens 22 = .ok (.aload_n 0, 1) := by decide +kernel
theorem dX9_opens_23 : decode cX9_opens 23 = .ok (.iload_n 1, 1) := by decide +kernel
theorem dX9_opens_24 : decode cX9_opens 24 = .ok (.invokevirtual 192, 3) := by decide +kernel
theorem dX9_opens_27 : decode cX9_opens 27 = .ok (.aload_n 0, 1) := by decide +kernel
theorem dX9_opens_28 : decode cX9_opens 28 = .ok (.getfield 23, 3) := by decide +kernel
theorem dX9_opens_31 : decode cX9_opens 31 = .ok (.iload_n 2, 1) := by decide +kernel
theorem dX9_opens_32 : decode cX9_opens 32 = .ok (.baload, 1) := by decide +kernel
theorem dX9_opens_33 : decode cX9_opens 33 = .ok (.ifCond .eq 7, 3) := by decide +kernel
theorem dX9_opens_36 : decode cX9_opens 36 = .ok (.iconst 1, 1) := by decide +kernel
theorem dX9_opens_37 : decode cX9_opens 37 = .ok (.goto 4, 3) := by decide +kernel
theorem dX9_opens_40 : decode cX9_opens 40 = .ok (.iconst 0, 1) := by decide +kernel
theorem dX9_opens_41 : decode cX9_opens 41 = .ok (.ireturn, 1) := by decide +kernel
theorem dX9_due_0 : decode cX9_due 0 = .ok (.aload_n 0, 1) := by decide +kernel
theorem dX9_due_1 : decode cX9_due 1 = .ok (.iconst 3, 1) := by decide +kernel
theorem dX9_due_2 : decode cX9_due 2 = .ok (.iconst 1, 1) := by decide +kernel
theorem dX9_due_3 : decode cX9_due 3 = .ok (.invokevirtual 108, 3) := by decide +kernel
theorem dX9_due_6 : decode cX9_due 6 = .ok (.istore_n 2, 1) := by decide +kernel
theorem dX9_due_7 : decode cX9_due 7 = .ok (.aload_n 0, 1) := by decide +kernel
theorem dX9_due_8 : decode cX9_due 8 = .ok (.iconst 3, 1) := by decide +kernel
theorem dX9_due_9 : decode cX9_due 9 = .ok (.iconst 2, 1) := by decide +kernel
theorem dX9_due_10 : decode cX9_due 10 = .ok (.invokevirtual 108, 3) := by decide +kernel
theorem dX9_due_13 : decode cX9_due 13 = .ok (.istore_n 3, 1) := by decide +kernel
theorem dX9_due_14 : decode cX9_due 14 = .ok (.aload_n 0, 1) := by decide +kernel
theorem dX9_due_15 : decode cX9_due 15 = .ok (.invokevirtual 130, 3) := by decide +kernel
theorem dX9_due_18 : decode cX9_due 18 = .ok (.iload_n 1, 1) := by decide +kernel
theorem dX9_due_19 : decode cX9_due 19 = .ok (.ifCond .ne 14, 3) := by decide +kernel
theorem dX9_due_22 : decode cX9_due 22 = .ok (.aload_n 0, 1) := by decide +kernel
theorem dX9_due_23 : decode cX9_due 23 = .ok (.iload_n 3, 1) := by decide +kernel
theorem dX9_due_24 : decode cX9_due 24 = .ok (.iload_n 2, 1) := by decide +kernel
theorem dX9_due_25 : decode cX9_due 25 = .ok (.invokevirtual 133, 3) := by decide +kernel
theorem dX9_due_28 : decode cX9_due 28 = .ok (.aload_n 0, 1) := by decide +kernel
theorem dX9_due_29 : decode cX9_due 29 = .ok (.invokevirtual 195, 3) := by decide +kernel
theorem dX9_due_32 : decode cX9_due 32 = .ok (.ireturn, 1) := by decide +kernel
theorem dX9_due_33 : decode cX9_due 33 = .ok (.iconst 0, 1) := by decide +kernel
theorem dX9_due_34 : decode cX9_due 34 = .ok (.istore 4, 2) := by decide +kernel
theorem dX9_due_36 : decode cX9_due 36 = .ok (.iconst 0, 1) := by decide +kernel
theorem dX9_due_37 : decode cX9_due 37 = .ok (.istore 5, 2) := by decide +kernel
theorem dX9_due_39 : decode cX9_due 39 = .ok (.iload 5, 2) := by decide +kernel
theorem dX9_due_41 : decode cX9_due 41 = .ok (.bipush 32, 2) := by decide +kernel
theorem dX9_due_43 : decode cX9_due 43 = .ok (.if_icmp .ge 79, 3) := by decide +kernel
theorem dX9_due_46 : decode cX9_due 46 = .ok (.iload 5, 2) := by decide +kernel
theorem dX9_due_48 : decode cX9_due 48 = .ok (.bipush 16, 2) := by decide +kernel
theorem dX9_due_50 : decode cX9_due 50 = .ok (.irem, 1) := by decide +kernel
theorem dX9_due_51 : decode cX9_due 51 = .ok (.istore 6, 2) := by decide +kernel
theorem dX9_due_53 : decode cX9_due 53 = .ok (.iload 5, 2) := by decide +kernel
theorem dX9_due_55 : decode cX9_due 55 = .ok (.bipush 16, 2) := by decide +kernel
theorem dX9_due_57 : decode cX9_due 57 = .ok (.if_icmp .ge 7, 3) := by decide +kernel
theorem dX9_due_60 : decode cX9_due 60 = .ok (.iload_n 3, 1) := by decide +kernel
theorem dX9_due_61 : decode cX9_due 61 = .ok (.goto 4, 3) := by decide +kernel
theorem dX9_due_64 : decode cX9_due 64 = .ok (.iload_n 2, 1) := by decide +kernel
theorem dX9_due_65 : decode cX9_due 65 = .ok (.iload 6, 2) := by decide +kernel
theorem dX9_due_67 : decode cX9_due 67 = .ok (.invokestatic 72, 3) := by decide +kernel
theorem dX9_due_70 : decode cX9_due 70 = .ok (.ifCond .eq 46, 3) := by decide +kernel
theorem dX9_due_73 : decode cX9_due 73 = .ok (.aload_n 0, 1) := by decide +kernel
theorem dX9_due_74 : decode cX9_due 74 = .ok (.iload 5, 2) := by decide +kernel
theorem dX9_due_76 : decode cX9_due 76 = .ok (.bipush 16, 2) := by decide +kernel
theorem dX9_due_78 : decode cX9_due 78 = .ok (.if_icmp .ge 10, 3) := by decide +kernel
theorem dX9_due_81 : decode cX9_due 81 = .ok (.iconst 1, 1) := by decide +kernel
theorem dX9_due_82 : decode cX9_due 82 = .ok (.iload 6, 2) := by decide +kernel
theorem dX9_due_84 : decode cX9_due 84 = .ok (.ishl, 1) := by decide +kernel
theorem dX9_due_85 : decode cX9_due 85 = .ok (.goto 4, 3) := by decide +kernel
theorem dX9_due_88 : decode cX9_due 88 = .ok (.iconst 0, 1) := by decide +kernel
theorem dX9_due_89 : decode cX9_due 89 = .ok (.iload 5, 2) := by decide +kernel
theorem dX9_due_91 : decode cX9_due 91 = .ok (.bipush 16, 2) := by decide +kernel
theorem dX9_due_93 : decode cX9_due 93 = .ok (.if_icmp .ge 7, 3) := by decide +kernel
theorem dX9_due_96 : decode cX9_due 96 = .ok (.iconst 0, 1) := by decide +kernel
theorem dX9_due_97 : decode cX9_due 97 = .ok (.goto 7, 3) := by decide +kernel
theorem dX9_due_100 : decode cX9_due 100 = .ok (.iconst 1, 1) := by decide +kernel
theorem dX9_due_101 : decode cX9_due 101 = .ok (.iload 6, 2) := by decide +kernel
theorem dX9_due_103 : decode cX9_due 103 = .ok (.ishl, 1) := by decide +kernel
theorem dX9_due_104 : decode cX9_due 104 = .ok (.invokevirtual 133, 3) := by decide +kernel
theorem dX9_due_107 : decode cX9_due 107 = .ok (.iload 4, 2) := by decide +kernel
theorem dX9_due_109 : decode cX9_due 109 = .ok (.aload_n 0, 1) := by decide +kernel
theorem dX9_due_110 : decode cX9_due 110 = .ok (.invokevirtual 195, 3) := by decide +kernel
theorem dX9_due_113 : decode cX9_due 113 = .ok (.iadd, 1) := by decide +kernel
theorem dX9_due_114 : decode cX9_due 114 = .ok (.istore 4, 2) := by decide +kernel
theorem dX9_due_116 : decode cX9_due 116 = .ok (.iinc 5 1, 3) := by decide +kernel
theorem dX9_due_119 : decode cX9_due 119 = .ok (.goto (-80), 3) := by decide +kernel
theorem dX9_due_122 : decode cX9_due 122 = .ok (.iload_n 1, 1) := by decide +kernel
theorem dX9_due_123 : decode cX9_due 123 = .ok (.iconst 1, 1) := by decide +kernel
theorem dX9_due_124 : decode cX9_due 124 = .ok (.if_icmp .ne 8, 3) := by decide +kernel
theorem dX9_due_127 : decode cX9_due 127 = .ok (.iload 4, 2) := by decide +kernel
theorem dX9_due_129 : decode cX9_due 129 = .ok (.goto 4, 3) := by decide +kernel
theorem dX9_due_132 : decode cX9_due 132 = .ok (.iconst (-1), 1) := by decide +kernel
theorem dX9_due_133 : decode cX9_due 133 = .ok (.ireturn, 1) := by decide +kernel
theorem dX9_luck_0 : decode cX9_luck 0 = .ok (.iload_n 1, 1) := by decide +kernel
theorem dX9_luck_1 : decode cX9_luck 1 = .ok (.invokestatic 98, 3) := by decide +kernel
theorem dX9_luck_4 : decode cX9_luck 4 = .ok (.ifCond .eq 25, 3) := by decide +kernel
theorem dX9_luck_7 : decode cX9_luck 7 = .ok (.iload_n 2, 1) := by decide +kernel
theorem dX9_luck_8 : decode cX9_luck 8 = .ok (.i2l, 1) := by decide +kernel
theorem dX9_luck_9 : decode cX9_luck 9 = .ok (.lconst 0, 1) := by decide +kernel
theorem dX9_luck_10 : decode cX9_luck 10 = .ok (.ldc2_w 198, 3) := by decide +kernel
theorem dX9_luck_13 : decode cX9_luck 13 = .ok (.invokestatic 60, 3) := by decide +kernel
theorem dX9_luck_16 : decode cX9_luck 16 = .ok (.ifCond .eq 13, 3) := by decide +kernel
theorem dX9_luck_19 : decode cX9_luck 19 = .ok (.iload_n 3, 1) := by decide +kernel
theorem dX9_luck_20 : decode cX9_luck 20 = .ok (.i2l, 1) := by decide +kernel
theorem dX9_luck_21 : decode cX9_luck 21 = .ok (.lconst 0, 1) := by decide +kernel
theorem dX9_luck_22 : decode cX9_luck 22 = .ok (.lconst 1, 1) := by decide +kernel
theorem dX9_luck_23 : decode cX9_luck 23 = .ok (.invokestatic 60, 3) := by decide +kernel
theorem dX9_luck_26 : decode cX9_luck 26 = .ok (.ifCond .ne 5, 3) := by decide +kernel
theorem dX9_luck_29 : decode cX9_luck 29 = .ok (.iconst (-1), 1) := by decide +kernel
theorem dX9_luck_30 : decode cX9_luck 30 = .ok (.ireturn, 1) := by decide +kernel
theorem dX9_luck_31 : decode cX9_luck 31 = .ok (.aload_n 0, 1) := by decide +kernel
theorem dX9_luck_32 : decode cX9_luck 32 = .ok (.iload_n 1, 1) := by decide +kernel
theorem dX9_luck_33 : decode cX9_luck 33 = .ok (.invokevirtual 68, 3) := by decide +kernel
theorem dX9_luck_36 : decode cX9_luck 36 = .ok (.ifCond .ne 6, 3) := by decide +kernel
theorem dX9_luck_39 : decode cX9_luck 39 = .ok (.bipush (-2), 2) := by decide +kernel
theorem dX9_luck_41 : decode cX9_luck 41 = .ok (.ireturn, 1) := by decide +kernel
theorem dX9_luck_42 : decode cX9_luck 42 = .ok (.iconst 1, 1) := by decide +kernel
theorem dX9_luck_43 : decode cX9_luck 43 = .ok (.istore 4, 2) := by decide +kernel
theorem dX9_luck_45 : decode cX9_luck 45 = .ok (.iconst 1, 1) := by decide +kernel
theorem dX9_luck_46 : decode cX9_luck 46 = .ok (.istore 5, 2) := by decide +kernel
theorem dX9_luck_48 : decode cX9_luck 48 = .ok (.iconst 0, 1) := by decide +kernel
theorem dX9_luck_49 : decode cX9_luck 49 = .ok (.istore 6, 2) := by decide +kernel
theorem dX9_luck_51 : decode cX9_luck 51 = .ok (.iload 6, 2) := by decide +kernel
theorem dX9_luck_53 : decode cX9_luck 53 = .ok (.aload_n 0, 1) := by decide +kernel
theorem dX9_luck_54 : decode cX9_luck 54 = .ok (.getfield 7, 3) := by decide +kernel
theorem dX9_luck_57 : decode cX9_luck 57 = .ok (.iconst 1, 1) := by decide +kernel
theorem dX9_luck_58 : decode cX9_luck 58 = .ok (.iaload, 1) := by decide +kernel
theorem dX9_luck_59 : decode cX9_luck 59 = .ok (.if_icmp .ge 74, 3) := by decide +kernel
theorem dX9_luck_62 : decode cX9_luck 62 = .ok (.aload_n 0, 1) := by decide +kernel
theorem dX9_luck_63 : decode cX9_luck 63 = .ok (.aload_n 0, 1) := by decide +kernel
theorem dX9_luck_64 : decode cX9_luck 64 = .ok (.iload 6, 2) := by decide +kernel
theorem dX9_luck_66 : decode cX9_luck 66 = .ok (.invokevirtual 114, 3) := by decide +kernel
theorem dX9_luck_69 : decode cX9_luck 69 = .ok (.invokevirtual 80, 3) := by decide +kernel
theorem dX9_luck_72 : decode cX9_luck 72 = .ok (.istore 7, 2) := by decide +kernel
theorem dX9_luck_74 : decode cX9_luck 74 = .ok (.aload_n 0, 1) := by decide +kernel
theorem dX9_luck_75 : decode cX9_luck 75 = .ok (.iload 6, 2) := by decide +kernel
theorem dX9_luck_77 : decode cX9_luck 77 = .ok (.invokevirtual 187, 3) := by decide +kernel
theorem dX9_luck_80 : decode cX9_luck 80 = .ok (.aload_n 0, 1) := by decide +kernel
theorem dX9_luck_81 : decode cX9_luck 81 = .ok (.getfield 7, 3) := by decide +kernel
theorem dX9_luck_84 : decode cX9_luck 84 = .ok (.iconst 2, 1) := by decide +kernel
theorem dX9_luck_85 : decode cX9_luck 85 = .ok (.iaload, 1) := by decide +kernel
theorem dX9_luck_86 : decode cX9_luck 86 = .ok (.iconst 1, 1) := by decide +kernel
theorem dX9_luck_87 : decode cX9_luck 87 = .ok (.isub, 1) := by decide +kernel
theorem dX9_luck_88 : decode cX9_luck 88 = .ok (.if_icmp .ne 39, 3) := by decide +kernel
theorem dX9_luck_91 : decode cX9_luck 91 = .ok (.iload 7, 2) := by decide +kernel
theorem dX9_luck_93 : decode cX9_luck 93 = .ok (.iconst 1, 1) := by decide +kernel
theorem dX9_luck_94 : decode cX9_luck 94 = .ok (.if_icmp .le 33, 3) := by decide +kernel
theorem dX9_luck_97 : decode cX9_luck 97 = .ok (.aload_n 0, 1) := by decide +kernel
theorem dX9_luck_98 : decode cX9_luck 98 = .ok (.iload_n 1, 1) := by decide +kernel
theorem dX9_luck_99 : decode cX9_luck 99 = .ok (.iconst 0, 1) := by decide +kernel
theorem dX9_luck_100 : decode cX9_luck 100 = .ok (.invokevirtual 64, 3) := by decide +kernel
theorem dX9_luck_103 : decode cX9_luck 103 = .ok (.iload 7, 2) := by decide +kernel
theorem dX9_luck_105 : decode cX9_luck 105 = .ok (.invokestatic 77, 3) := by decide +kernel
theorem dX9_luck_108 : decode cX9_luck 108 = .ok (.ifCond .eq 19, 3) := by decide +kernel
theorem dX9_luck_111 : decode cX9_luck 111 = .ok (.iload 4, 2) := by decide +kernel
theorem dX9_luck_113 : decode cX9_luck 113 = .ok (.bipush 10, 2) := by decide +kernel
theorem dX9_luck_115 : decode cX9_luck 115 = .ok (.iload_n 2, 1) := by decide +kernel
theorem dX9_luck_116 : decode cX9_luck 116 = .ok (.isub, 1) := by decide +kernel
theorem dX9_luck_117 : decode cX9_luck 117 = .ok (.imul, 1) := by decide +kernel
theorem dX9_luck_118 : decode cX9_luck 118 = .ok (.istore 4, 2) := by decide +kernel
theorem dX9_luck_120 : decode cX9_luck 120 = .ok (.iload 5, 2) := by decide +kernel
theorem dX9_luck_122 : decode cX9_luck 122 = .ok (.bipush 10, 2) := by decide +kernel
theorem dX9_luck_124 : decode cX9_luck 124 = .ok (.imul, 1) := by decide +kernel
theorem dX9_luck_125 : decode cX9_luck 125 = .ok (.istore 5, 2) := by decide +kernel
theorem dX9_luck_127 : decode cX9_luck 127 = .ok (.iinc 6 1, 3) := by decide +kernel
theorem dX9_luck_130 : decode cX9_luck 130 = .ok (.goto (-79), 3) := by decide +kernel
theorem dX9_luck_133 : decode cX9_luck 133 = .ok (.iload 4, 2) := by decide +kernel
theorem dX9_luck_135 : decode cX9_luck 135 = .ok (.istore 6, 2) := by decide +kernel
theorem dX9_luck_137 : decode cX9_luck 137 = .ok (.iload 5, 2) := by decide +kernel
theorem dX9_luck_139 : decode cX9_luck 139 = .ok (.istore 7, 2) := by decide +kernel
theorem dX9_luck_141 : decode cX9_luck 141 = .ok (.iload 7, 2) := by decide +kernel
theorem dX9_luck_143 : decode cX9_luck 143 = .ok (.ifCond .eq 21, 3) := by decide +kernel
theorem dX9_luck_146 : decode cX9_luck 146 = .ok (.iload 6, 2) := by decide +kernel
theorem dX9_luck_148 : decode cX9_luck 148 = .ok (.iload 7, 2) := by decide +kernel
theorem dX9_luck_150 : decode cX9_luck 150 = .ok (.irem, 1) := by decide +kernel
theorem dX9_luck_151 : decode cX9_luck 151 = .ok (.istore 8, 2) := by decide +kernel
theorem dX9_luck_153 : decode cX9_luck 153 = .ok (.iload 7, 2) := by decide +kernel
theorem dX9_luck_155 : decode cX9_luck 155 = .ok (.istore 6, 2) := by decide +kernel
theorem dX9_luck_157 : decode cX9_luck 157 = .ok (.iload 8, 2) := by decide +kernel
theorem dX9_luck_159 : decode cX9_luck 159 = .ok (.istore 7, 2) := by decide +kernel
theorem dX9_luck_161 : decode cX9_luck 161 = .ok (.goto (-20), 3) := by decide +kernel
theorem dX9_luck_164 : decode cX9_luck 164 = .ok (.iload_n 3, 1) := by decide +kernel
theorem dX9_luck_165 : decode cX9_luck 165 = .ok (.ifCond .ne 8, 3) := by decide +kernel
theorem dX9_luck_168 : decode cX9_luck 168 = .ok (.iload 4, 2) := by decide +kernel
theorem dX9_luck_170 : decode cX9_luck 170 = .ok (.goto 5, 3) := by decide +kernel
theorem dX9_luck_173 : decode cX9_luck 173 = .ok (.iload 5, 2) := by decide +kernel
theorem dX9_luck_175 : decode cX9_luck 175 = .ok (.iload 6, 2) := by decide +kernel
theorem dX9_luck_177 : decode cX9_luck 177 = .ok (.idiv, 1) := by decide +kernel
theorem dX9_luck_178 : decode cX9_luck 178 = .ok (.ireturn, 1) := by decide +kernel
theorem dX9_type_0 : decode cX9_type 0 = .ok (.iload_n 1, 1) := by decide +kernel
theorem dX9_type_1 : decode cX9_type 1 = .ok (.i2l, 1) := by decide +kernel
theorem dX9_type_2 : decode cX9_type 2 = .ok (.ldc2_w 200, 3) := by decide +kernel
theorem dX9_type_5 : decode cX9_type 5 = .ok (.ldc2_w 202, 3) := by decide +kernel
theorem dX9_type_8 : decode cX9_type 8 = .ok (.invokestatic 60, 3) := by decide +kernel
theorem dX9_type_11 : decode cX9_type 11 = .ok (.ifCond .ne 5, 3) := by decide +kernel
theorem dX9_type_14 : decode cX9_type 14 = .ok (.iconst (-1), 1) := by decide +kernel
theorem dX9_type_15 : decode cX9_type 15 = .ok (.ireturn, 1) := by decide +kernel
theorem dX9_type_16 : decode cX9_type 16 = .ok (.aload_n 0, 1) := by decide +kernel
theorem dX9_type_17 : decode cX9_type 17 = .ok (.getfield 204, 3) := by decide +kernel
theorem dX9_type_20 : decode cX9_type 20 = .ok (.bipush 90, 2) := by decide +kernel
theorem dX9_type_22 : decode cX9_type 22 = .ok (.if_icmp .ne 6, 3) := by decide +kernel
theorem dX9_type_25 : decode cX9_type 25 = .ok (.bipush (-3), 2) := by decide +kernel
theorem dX9_type_27 : decode cX9_type 27 = .ok (.ireturn, 1) := by decide +kernel
theorem dX9_type_28 : decode cX9_type 28 = .ok (.aload_n 0, 1) := by decide +kernel
theorem dX9_type_29 : decode cX9_type 29 = .ok (.getfield 26, 3) := by decide +kernel
theorem dX9_type_32 : decode cX9_type 32 = .ok (.aload_n 0, 1) := by decide +kernel
theorem dX9_type_33 : decode cX9_type 33 = .ok (.getfield 204, 3) := by decide +kernel
theorem dX9_type_36 : decode cX9_type 36 = .ok (.iload_n 1, 1) := by decide +kernel
theorem dX9_type_37 : decode cX9_type 37 = .ok (.iastore, 1) := by decide +kernel
theorem dX9_type_38 : decode cX9_type 38 = .ok (.aload_n 0, 1) := by decide +kernel
theorem dX9_type_39 : decode cX9_type 39 = .ok (.dup, 1) := by decide +kernel
theorem dX9_type_40 : decode cX9_type 40 = .ok (.getfield 204, 3) := by decide +kernel
theorem dX9_type_43 : decode cX9_type 43 = .ok (.iconst 1, 1) := by decide +kernel
theorem dX9_type_44 : decode cX9_type 44 = .ok (.iadd, 1) := by decide +kernel
theorem dX9_type_45 : decode cX9_type 45 = .ok (.putfield 204, 3) := by decide +kernel
theorem dX9_type_48 : decode cX9_type 48 = .ok (.aload_n 0, 1) := by decide +kernel
theorem dX9_type_49 : decode cX9_type 49 = .ok (.getfield 204, 3) := by decide +kernel
theorem dX9_type_52 : decode cX9_type 52 = .ok (.ireturn, 1) := by decide +kernel
theorem dX9_here_0 : decode cX9_here 0 = .ok (.aload_n 0, 1) := by decide +kernel
theorem dX9_here_1 : decode cX9_here 1 = .ok (.getfield 207, 3) := by decide +kernel
theorem dX9_here_4 : decode cX9_here 4 = .ok (.aload_n 0, 1) := by decide +kernel
theorem dX9_here_5 : decode cX9_here 5 = .ok (.getfield 204, 3) := by decide +kernel
theorem dX9_here_8 : decode cX9_here 8 = .ok (.if_icmp .ge 30, 3) := by decide +kernel
theorem dX9_here_11 : decode cX9_here 11 = .ok (.aload_n 0, 1) := by decide +kernel
theorem dX9_here_12 : decode cX9_here 12 = .ok (.getfield 26, 3) := by decide +kernel
theorem dX9_here_15 : decode cX9_here 15 = .ok (.aload_n 0, 1) := by decide +kernel
theorem dX9_here_16 : decode cX9_here 16 = .ok (.getfield 207, 3) := by decide +kernel
theorem dX9_here_19 : decode cX9_here 19 = .ok (.iaload, 1) := by decide +kernel
theorem dX9_here_20 : decode cX9_here 20 = .ok (.bipush 32, 2) := by decide +kernel
theorem dX9_here_22 : decode cX9_here 22 = .ok (.if_icmp .ne 16, 3) := by decide +kernel
theorem dX9_here_25 : decode cX9_here 25 = .ok (.aload_n 0, 1) := by decide +kernel
theorem dX9_here_26 : decode cX9_here 26 = .ok (.dup, 1) := by decide +kernel
theorem dX9_here_27 : decode cX9_here 27 = .ok (.getfield 207, 3) := by decide +kernel
theorem dX9_here_30 : decode cX9_here 30 = .ok (.iconst 1, 1) := by decide +kernel
theorem dX9_here_31 : decode cX9_here 31 = .ok (.iadd, 1) := by decide +kernel
theorem dX9_here_32 : decode cX9_here 32 = .ok (.putfield 207, 3) := by decide +kernel
theorem dX9_here_35 : decode cX9_here 35 = .ok (.goto (-35), 3) := by decide +kernel
theorem dX9_here_38 : decode cX9_here 38 = .ok (.aload_n 0, 1) := by decide +kernel
theorem dX9_here_39 : decode cX9_here 39 = .ok (.getfield 207, 3) := by decide +kernel
theorem dX9_here_42 : decode cX9_here 42 = .ok (.aload_n 0, 1) := by decide +kernel
theorem dX9_here_43 : decode cX9_here 43 = .ok (.getfield 204, 3) := by decide +kernel
theorem dX9_here_46 : decode cX9_here 46 = .ok (.if_icmp .ge 15, 3) := by decide +kernel
theorem dX9_here_49 : decode cX9_here 49 = .ok (.aload_n 0, 1) := by decide +kernel
theorem dX9_here_50 : decode cX9_here 50 = .ok (.getfield 26, 3) := by decide +kernel
theorem dX9_here_53 : decode cX9_here 53 = .ok (.aload_n 0, 1) := by decide +kernel
theorem dX9_here_54 : decode cX9_here 54 = .ok (.getfield 207, 3) := by decide +kernel
theorem dX9_here_57 : decode cX9_here 57 = .ok (.iaload, 1) := by decide +kernel
theorem dX9_here_58 : decode cX9_here 58 = .ok (.goto 4, 3) := by decide +kernel
theorem dX9_here_61 : decode cX9_here 61 = .ok (.iconst 0, 1) := by decide +kernel
theorem dX9_here_62 : decode cX9_here 62 = .ok (.ireturn, 1) := by decide +kernel
theorem dX9_event_0 : decode cX9_event 0 = .ok (.aload_n 0, 1) := by decide +kernel
theorem dX9_event_1 : decode cX9_event 1 = .ok (.invokevirtual 210, 3) := by decide +kernel
theorem dX9_event_4 : decode cX9_event 4 = .ok (.istore_n 1, 1) := by decide +kernel
theorem dX9_event_5 : decode cX9_event 5 = .ok (.iload_n 1, 1) := by decide +kernel
theorem dX9_event_6 : decode cX9_event 6 = .ok (.bipush 33, 2) := by decide +kernel
theorem dX9_event_8 : decode cX9_event 8 = .ok (.if_icmp .eq 17, 3) := by decide +kernel
theorem dX9_event_11 : decode cX9_event 11 = .ok (.iload_n 1, 1) := by decide +kernel
theorem dX9_event_12 : decode cX9_event 12 = .ok (.bipush 43, 2) := by decide +kernel
theorem dX9_event_14 : decode cX9_event 14 = .ok (.if_icmp .eq 11, 3) := by decide +kernel
theorem dX9_event_17 : decode cX9_event 17 = .ok (.iload_n 1, 1) := by decide +kernel
theorem dX9_event_18 : decode cX9_event 18 = .ok (.bipush 45, 2) := by decide +kernel
theorem dX9_event_20 : decode cX9_event 20 = .ok (.if_icmp .eq 5, 3) := by decide +kernel
theorem dX9_event_23 : decode cX9_event 23 = .ok (.iconst (-1), 1) := by decide +kernel
theorem dX9_event_24 : decode cX9_event 24 = .ok (.ireturn, 1) := by decide +kernel
theorem dX9_event_25 : decode cX9_event 25 = .ok (.aload_n 0, 1) := by decide +kernel
theorem dX9_event_26 : decode cX9_event 26 = .ok (.dup, 1) := by decide +kernel
theorem dX9_event_27 : decode cX9_event 27 = .ok (.getfield 207, 3) := by decide +kernel
theorem dX9_event_30 : decode cX9_event 30 = .ok (.iconst 1, 1) := by decide +kernel
theorem dX9_event_31 : decode cX9_event 31 = .ok (.iadd, 1) := by decide +kernel
theorem dX9_event_32 : decode cX9_event 32 = .ok (.putfield 207, 3) := by decide +kernel
theorem dX9_event_35 : decode cX9_event 35 = .ok (.iload_n 1, 1) := by decide +kernel
theorem dX9_event_36 : decode cX9_event 36 = .ok (.bipush 33, 2) := by decide +kernel
theorem dX9_event_38 : decode cX9_event 38 = .ok (.if_icmp .ne 6, 3) := by decide +kernel
theorem dX9_event_41 : decode cX9_event 41 = .ok (.bipush 32, 2) := by decide +kernel
theorem dX9_event_43 : decode cX9_event 43 = .ok (.ireturn, 1) := by decide +kernel
theorem dX9_event_44 : decode cX9_event 44 = .ok (.aload_n 0, 1) := by decide +kernel
theorem dX9_event_45 : decode cX9_event 45 = .ok (.invokevirtual 210, 3) := by decide +kernel
theorem dX9_event_48 : decode cX9_event 48 = .ok (.istore_n 2, 1) := by decide +kernel
theorem dX9_event_49 : decode cX9_event 49 = .ok (.iload_n 2, 1) := by decide +kernel
theorem dX9_event_50 : decode cX9_event 50 = .ok (.i2l, 1) := by decide +kernel
theorem dX9_event_51 : decode cX9_event 51 = .ok (.ldc2_w 213, 3) := by decide +kernel
theorem dX9_event_54 : decode cX9_event 54 = .ok (.ldc2_w 215, 3) := by decide +kernel
theorem dX9_event_57 : decode cX9_event 57 = .ok (.invokestatic 60, 3) := by decide +kernel
theorem dX9_event_60 : decode cX9_event 60 = .ok (.ifCond .eq 10, 3) := by decide +kernel
theorem dX9_event_63 : decode cX9_event 63 = .ok (.iload_n 2, 1) := by decide +kernel
theorem dX9_event_64 : decode cX9_event 64 = .ok (.bipush 48, 2) := by decide +kernel
theorem dX9_event_66 : decode cX9_event 66 = .ok (.isub, 1) := by decide +kernel
theorem dX9_event_67 : decode cX9_event 67 = .ok (.goto 25, 3) := by decide +kernel
theorem dX9_event_70 : decode cX9_event 70 = .ok (.iload_n 2, 1) := by decide +kernel
theorem dX9_event_71 : decode cX9_event 71 = .ok (.i2l, 1) := by decide +kernel
theorem dX9_event_72 : decode cX9_event 72 = .ok (.ldc2_w 217, 3) := by decide +kernel
theorem dX9_event_75 : decode cX9_event 75 = .ok (.ldc2_w 219, 3) := by decide +kernel
theorem dX9_event_78 : decode cX9_event 78 = .ok (.invokestatic 60, 3) := by decide +kernel
theorem dX9_event_81 : decode cX9_event 81 = .ok (.ifCond .eq 10, 3) := by decide +kernel
theorem dX9_event_84 : decode cX9_event 84 = .ok (.iload_n 2, 1) := by decide +kernel
theorem dX9_event_85 : decode cX9_event 85 = .ok (.bipush 87, 2) := by decide +kernel
theorem dX9_event_87 : decode cX9_event 87 = .ok (.isub, 1) := by decide +kernel
theorem dX9_event_88 : decode cX9_event 88 = .ok (.goto 4, 3) := by decide +kernel
theorem dX9_event_91 : decode cX9_event 91 = .ok (.iconst (-1), 1) := by decide +kernel
theorem dX9_event_92 : decode cX9_event 92 = .ok (.istore_n 3, 1) := by decide +kernel
theorem dX9_event_93 : decode cX9_event 93 = .ok (.aload_n 0, 1) := by decide +kernel
theorem dX9_event_94 : decode cX9_event 94 = .ok (.dup, 1) := by decide +kernel
theorem dX9_event_95 : decode cX9_event 95 = .ok (.getfield 207, 3) := by decide +kernel
theorem dX9_event_98 : decode cX9_event 98 = .ok (.iload_n 3, 1) := by decide +kernel
theorem dX9_event_99 : decode cX9_event 99 = .ok (.ifCond .ge 7, 3) := by decide +kernel
theorem dX9_event_102 : decode cX9_event 102 = .ok (.iconst 0, 1) := by decide +kernel
theorem dX9_event_103 : decode cX9_event 103 = .ok (.goto 4, 3) := by decide +kernel
theorem dX9_event_106 : decode cX9_event 106 = .ok (.iconst 1, 1) := by decide +kernel
theorem dX9_event_107 : decode cX9_event 107 = .ok (.iadd, 1) := by decide +kernel
theorem dX9_event_108 : decode cX9_event 108 = .ok (.putfield 207, 3) := by decide +kernel
theorem dX9_event_111 : decode cX9_event 111 = .ok (.iload_n 3, 1) := by decide +kernel
theorem dX9_event_112 : decode cX9_event 112 = .ok (.ifCond .ge 7, 3) := by decide +kernel
theorem dX9_event_115 : decode cX9_event 115 = .ok (.iconst (-1), 1) := by decide +kernel
theorem dX9_event_116 : decode cX9_event 116 = .ok (.goto 17, 3) := by decide +kernel
theorem dX9_event_119 : decode cX9_event 119 = .ok (.iload_n 1, 1) := by decide +kernel
theorem dX9_event_120 : decode cX9_event 120 = .ok (.bipush 43, 2) := by decide +kernel
theorem dX9_event_122 : decode cX9_event 122 = .ok (.if_icmp .ne 7, 3) := by decide +kernel
theorem dX9_event_125 : decode cX9_event 125 = .ok (.iload_n 3, 1) := by decide +kernel
theorem dX9_event_126 : decode cX9_event 126 = .ok (.goto 7, 3) := by decide +kernel
theorem dX9_event_129 : decode cX9_event 129 = .ok (.bipush 16, 2) := by decide +kernel
theorem dX9_event_131 : decode cX9_event 131 = .ok (.iload_n 3, 1) := by decide +kernel
theorem dX9_event_132 : decode cX9_event 132 = .ok (.iadd, 1) := by decide +kernel
theorem dX9_event_133 : decode cX9_event 133 = .ok (.ireturn, 1) := by decide +kernel
theorem dX9_does_0 : decode cX9_does 0 = .ok (.iload_n 1, 1) := by decide +kernel
theorem dX9_does_1 : decode cX9_does 1 = .ok (.bipush 16, 2) := by decide +kernel
theorem dX9_does_3 : decode cX9_does 3 = .ok (.irem, 1) := by decide +kernel
theorem dX9_does_4 : decode cX9_does 4 = .ok (.istore_n 2, 1) := by decide +kernel
theorem dX9_does_5 : decode cX9_does 5 = .ok (.iload_n 1, 1) := by decide +kernel
theorem dX9_does_6 : decode cX9_does 6 = .ok (.bipush 32, 2) := by decide +kernel
theorem dX9_does_8 : decode cX9_does 8 = .ok (.if_icmp .ne 45, 3) := by decide +kernel
theorem dX9_does_11 : decode cX9_does 11 = .ok (.aload_n 0, 1) := by decide +kernel
theorem dX9_does_12 : decode cX9_does 12 = .ok (.invokevirtual 149, 3) := by decide +kernel
theorem dX9_does_15 : decode cX9_does 15 = .ok (.ifCond .ne 7, 3) := by decide +kernel
theorem dX9_does_18 : decode cX9_does 18 = .ok (.iconst 1, 1) := by decide +kernel
theorem dX9_does_19 : decode cX9_does 19 = .ok (.goto 4, 3) := by decide +kernel
theorem dX9_does_22 : decode cX9_does 22 = .ok (.iconst 0, 1) := by decide +kernel
theorem dX9_does_23 : decode cX9_does 23 = .ok (.istore_n 3, 1) := by decide +kernel
theorem dX9_does_24 : decode cX9_does 24 = .ok (.iload_n 3, 1) := by decide +kernel
theorem dX9_does_25 : decode cX9_does 25 = .ok (.ifCond .eq 10, 3) := by decide +kernel
theorem dX9_does_28 : decode cX9_does 28 = .ok (.aload_n 0, 1) := by decide +kernel
theorem dX9_does_29 : decode cX9_does 29 = .ok (.invokevirtual 152, 3) := by decide +kernel
theorem dX9_does_32 : decode cX9_does 32 = .ok (.goto 4, 3) := by decide +kernel
theorem dX9_does_35 : decode cX9_does 35 = .ok (.iconst 0, 1) := by decide +kernel
theorem dX9_does_36 : decode cX9_does 36 = .ok (.istore 4, 2) := by decide +kernel
theorem dX9_does_38 : decode cX9_does 38 = .ok (.iload_n 3, 1) := by decide +kernel
theorem dX9_does_39 : decode cX9_does 39 = .ok (.ifCond .eq 12, 3) := by decide +kernel
theorem dX9_does_42 : decode cX9_does 42 = .ok (.iload 4, 2) := by decide +kernel
theorem dX9_does_44 : decode cX9_does 44 = .ok (.ifCond .lt 7, 3) := by decide +kernel
theorem dX9_does_47 : decode cX9_does 47 = .ok (.iconst 1, 1) := by decide +kernel
theorem dX9_does_48 : decode cX9_does 48 = .ok (.goto 4, 3) := by decide +kernel
theorem dX9_does_51 : decode cX9_does 51 = .ok (.iconst 0, 1) := by decide +kernel
theorem dX9_does_52 : decode cX9_does 52 = .ok (.ireturn, 1) := by decide +kernel
theorem dX9_does_53 : decode cX9_does 53 = .ok (.iload_n 1, 1) := by decide +kernel
theorem dX9_does_54 : decode cX9_does 54 = .ok (.bipush 16, 2) := by decide +kernel
theorem dX9_does_56 : decode cX9_does 56 = .ok (.if_icmp .ge 7, 3) := by decide +kernel
theorem dX9_does_59 : decode cX9_does 59 = .ok (.iconst 1, 1) := by decide +kernel
theorem dX9_does_60 : decode cX9_does 60 = .ok (.goto 4, 3) := by decide +kernel
theorem dX9_does_63 : decode cX9_does 63 = .ok (.iconst 0, 1) := by decide +kernel
theorem dX9_does_64 : decode cX9_does 64 = .ok (.istore_n 3, 1) := by decide +kernel
theorem dX9_does_65 : decode cX9_does 65 = .ok (.iload_n 3, 1) := by decide +kernel
theorem dX9_does_66 : decode cX9_does 66 = .ok (.ifCond .eq 24, 3) := by decide +kernel
theorem dX9_does_69 : decode cX9_does 69 = .ok (.aload_n 0, 1) := by decide +kernel
theorem dX9_does_70 : decode cX9_does 70 = .ok (.iload_n 2, 1) := by decide +kernel
theorem dX9_does_71 : decode cX9_does 71 = .ok (.invokevirtual 68, 3) := by decide +kernel
theorem dX9_does_74 : decode cX9_does 74 = .ok (.ifCond .ne 34, 3) := by decide +kernel
theorem dX9_does_77 : decode cX9_does 77 = .ok (.aload_n 0, 1) := by decide +kernel
theorem dX9_does_78 : decode cX9_does 78 = .ok (.iload_n 2, 1) := by decide +kernel
theorem dX9_does_79 : decode cX9_does 79 = .ok (.iconst 3, 1) := by decide +kernel
theorem dX9_does_80 : decode cX9_does 80 = .ok (.invokevirtual 64, 3) := by decide +kernel
theorem dX9_does_83 : decode cX9_does 83 = .ok (.iconst 1, 1) := by decide +kernel
theorem dX9_does_84 : decode cX9_does 84 = .ok (.if_icmp .ne 26, 3) := by decide +kernel
theorem dX9_does_87 : decode cX9_does 87 = .ok (.goto 21, 3) := by decide +kernel
theorem dX9_does_90 : decode cX9_does 90 = .ok (.aload_n 0, 1) := by decide +kernel
theorem dX9_does_91 : decode cX9_does 91 = .ok (.iload_n 2, 1) := by decide +kernel
theorem dX9_does_92 : decode cX9_does 92 = .ok (.invokevirtual 68, 3) := by decide +kernel
theorem dX9_does_95 : decode cX9_does 95 = .ok (.ifCond .eq 13, 3) := by decide +kernel
theorem dX9_does_98 : decode cX9_does 98 = .ok (.aload_n 0, 1) := by decide +kernel
theorem dX9_does_99 : decode cX9_does 99 = .ok (.iload_n 2, 1) := by decide +kernel
theorem dX9_does_100 : decode cX9_does 100 = .ok (.iconst 3, 1) := by decide +kernel
theorem dX9_does_101 : decode cX9_does 101 = .ok (.invokevirtual 64, 3) := by decide +kernel
theorem dX9_does_104 : decode cX9_does 104 = .ok (.iconst 2, 1) := by decide +kernel
theorem dX9_does_105 : decode cX9_does 105 = .ok (.if_icmp .ne 5, 3) := by decide +kernel
theorem dX9_does_108 : decode cX9_does 108 = .ok (.iconst 0, 1) := by decide +kernel
theorem dX9_does_109 : decode cX9_does 109 = .ok (.ireturn, 1) := by decide +kernel
theorem dX9_does_110 : decode cX9_does 110 = .ok (.aload_n 0, 1) := by decide +kernel
theorem dX9_does_111 : decode cX9_does 111 = .ok (.iload_n 2, 1) := by decide +kernel
theorem dX9_does_112 : decode cX9_does 112 = .ok (.iconst 3, 1) := by decide +kernel
theorem dX9_does_113 : decode cX9_does 113 = .ok (.iload_n 3, 1) := by decide +kernel
theorem dX9_does_114 : decode cX9_does 114 = .ok (.ifCond .eq 7, 3) := by decide +kernel
theorem dX9_does_117 : decode cX9_does 117 = .ok (.iconst 1, 1) := by decide +kernel
theorem dX9_does_118 : decode cX9_does 118 = .ok (.goto 4, 3) := by decide +kernel
theorem dX9_does_121 : decode cX9_does 121 = .ok (.iconst 2, 1) := by decide +kernel
theorem dX9_does_122 : decode cX9_does 122 = .ok (.invokevirtual 104, 3) := by decide +kernel
theorem dX9_does_125 : decode cX9_does 125 = .ok (.iconst 1, 1) := by decide +kernel
theorem dX9_does_126 : decode cX9_does 126 = .ok (.ireturn, 1) := by decide +kernel
theorem dX9_goesThrough_0 : decode cX9_goesThrough 0 = .ok (.aload_n 0, 1) := by decide +kernel
theorem dX9_goesThrough_1 : decode cX9_goesThrough 1 = .ok (.iconst 0, 1) := by decide +kernel
theorem dX9_goesThrough_2 : decode cX9_goesThrough 2 = .ok (.putfield 207, 3) := by decide +kernel
theorem dX9_goesThrough_5 : decode cX9_goesThrough 5 = .ok (.aload_n 0, 1) := by decide +kernel
theorem dX9_goesThrough_6 : decode cX9_goesThrough 6 = .ok (.iconst 0, 1) := by decide +kernel
theorem dX9_goesThrough_7 : decode cX9_goesThrough 7 = .ok (.putfield 221, 3) := by decide +kernel
theorem dX9_goesThrough_10 : decode cX9_goesThrough 10 = .ok (.iconst 0, 1) := by decide +kernel
theorem dX9_goesThrough_11 : decode cX9_goesThrough 11 = .ok (.istore_n 2, 1) := by decide +kernel
theorem dX9_goesThrough_12 : decode cX9_goesThrough 12 = .ok (.iconst 1, 1) := by decide +kernel
theorem dX9_goesThrough_13 : decode cX9_goesThrough 13 = .ok (.istore_n 3, 1) := by decide +kernel
theorem dX9_goesThrough_14 : decode cX9_goesThrough 14 = .ok (.iconst 1, 1) := by decide +kernel
theorem dX9_goesThrough_15 : decode cX9_goesThrough 15 = .ok (.istore 4, 2) := by decide +kernel
theorem dX9_goesThrough_17 : decode cX9_goesThrough 17 = .ok (.iload_n 3, 1) := by decide +kernel
theorem dX9_goesThrough_18 : decode cX9_goesThrough 18 = .ok (.ifCond .eq 81, 3) := by decide +kernel
theorem dX9_goesThrough_21 : decode cX9_goesThrough 21 = .ok (.iload 4, 2) := by decide +kernel
theorem dX9_goesThrough_23 : decode cX9_goesThrough 23 = .ok (.ifCond .eq 76, 3) := by decide +kernel
theorem dX9_goesThrough_26 : decode cX9_goesThrough 26 = .ok (.iload_n 2, 1) := by decide +kernel
theorem dX9_goesThrough_27 : decode cX9_goesThrough 27 = .ok (.ifCond .eq 10, 3) := by decide +kernel
theorem dX9_goesThrough_30 : decode cX9_goesThrough 30 = .ok (.aload_n 0, 1) := by decide +kernel
theorem dX9_goesThrough_31 : decode cX9_goesThrough 31 = .ok (.invokevirtual 210, 3) := by decide +kernel
theorem dX9_goesThrough_34 : decode cX9_goesThrough 34 = .ok (.ifCond .eq 65, 3) := by decide +kernel
theorem dX9_goesThrough_37 : decode cX9_goesThrough 37 = .ok (.aload_n 0, 1) := by decide +kernel
theorem dX9_goesThrough_38 : decode cX9_goesThrough 38 = .ok (.invokevirtual 224, 3) := by decide +kernel
theorem dX9_goesThrough_41 : decode cX9_goesThrough 41 = .ok (.istore 5, 2) := by decide +kernel
theorem dX9_goesThrough_43 : decode cX9_goesThrough 43 = .ok (.iload 5, 2) := by decide +kernel
theorem dX9_goesThrough_45 : decode cX9_goesThrough 45 = .ok (.ifCond .lt 7, 3) := by decide +kernel
theorem dX9_goesThrough_48 : decode cX9_goesThrough 48 = .ok (.iconst 1, 1) := by decide +kernel
theorem dX9_goesThrough_49 : decode cX9_goesThrough 49 = .ok (.goto 4, 3) := by decide +kernel
theorem dX9_goesThrough_52 : decode cX9_goesThrough 52 = .ok (.iconst 0, 1) := by decide +kernel
theorem dX9_goesThrough_53 : decode cX9_goesThrough 53 = .ok (.istore_n 3, 1) := by decide +kernel
theorem dX9_goesThrough_54 : decode cX9_goesThrough 54 = .ok (.iload_n 1, 1) := by decide +kernel
theorem dX9_goesThrough_55 : decode cX9_goesThrough 55 = .ok (.ifCond .eq 12, 3) := by decide +kernel
theorem dX9_goesThrough_58 : decode cX9_goesThrough 58 = .ok (.aload_n 0, 1) := by decide +kernel
theorem dX9_goesThrough_59 : decode cX9_goesThrough 59 = .ok (.iload 5, 2) := by decide +kernel
theorem dX9_goesThrough_61 : decode cX9_goesThrough 61 = .ok (.invokevirtual 227, 3) := by decide +kernel
theorem dX9_goesThrough_64 : decode cX9_goesThrough 64 = .ok (.ifCond .eq 7, 3) := by decide +kernel
theorem dX9_goesThrough_67 : decode cX9_goesThrough 67 = .ok (.iconst 1, 1) := by decide +kernel
theorem dX9_goesThrough_68 : decode cX9_goesThrough 68 = .ok (.goto 4, 3) := by decide +kernel
theorem dX9_goesThrough_71 : decode cX9_goesThrough 71 = .ok (.iconst 0, 1) := by decide +kernel
theorem dX9_goesThrough_72 : decode cX9_goesThrough 72 = .ok (.istore 4, 2) := by decide +kernel
theorem dX9_goesThrough_74 : decode cX9_goesThrough 74 = .ok (.aload_n 0, 1) := by decide +kernel
theorem dX9_goesThrough_75 : decode cX9_goesThrough 75 = .ok (.dup, 1) := by decide +kernel
theorem dX9_goesThrough_76 : decode cX9_goesThrough 76 = .ok (.getfield 221, 3) := by decide +kernel
theorem dX9_goesThrough_79 : decode cX9_goesThrough 79 = .ok (.iload 4, 2) := by decide +kernel
theorem dX9_goesThrough_81 : decode cX9_goesThrough 81 = .ok (.ifCond .eq 7, 3) := by decide +kernel
theorem dX9_goesThrough_84 : decode cX9_goesThrough 84 = .ok (.iconst 1, 1) := by decide +kernel
theorem dX9_goesThrough_85 : decode cX9_goesThrough 85 = .ok (.goto 4, 3) := by decide +kernel
theorem dX9_goesThrough_88 : decode cX9_goesThrough 88 = .ok (.iconst 0, 1) := by decide +kernel
theorem dX9_goesThrough_89 : decode cX9_goesThrough 89 = .ok (.iadd, 1) := by decide +kernel
theorem dX9_goesThrough_90 : decode cX9_goesThrough 90 = .ok (.putfield 221, 3) := by decide +kernel
theorem dX9_goesThrough_93 : decode cX9_goesThrough 93 = .ok (.iinc 2 1, 3) := by decide +kernel
theorem dX9_goesThrough_96 : decode cX9_goesThrough 96 = .ok (.goto (-79), 3) := by decide +kernel
theorem dX9_goesThrough_99 : decode cX9_goesThrough 99 = .ok (.iload_n 3, 1) := by decide +kernel
theorem dX9_goesThrough_100 : decode cX9_goesThrough 100 = .ok (.ireturn, 1) := by decide +kernel
theorem dX9_read_0 : decode cX9_read 0 = .ok (.aload_n 0, 1) := by decide +kernel
theorem dX9_read_1 : decode cX9_read 1 = .ok (.iconst 0, 1) := by decide +kernel
theorem dX9_read_2 : decode cX9_read 2 = .ok (.invokevirtual 230, 3) := by decide +kernel
theorem dX9_read_5 : decode cX9_read 5 = .ok (.istore_n 1, 1) := by decide +kernel
theorem dX9_read_6 : decode cX9_read 6 = .ok (.aload_n 0, 1) := by decide +kernel
theorem dX9_read_7 : decode cX9_read 7 = .ok (.invokevirtual 210, 3) := by decide +kernel
theorem dX9_read_10 : decode cX9_read 10 = .ok (.ifCond .ne 10, 3) := by decide +kernel
theorem dX9_read_13 : decode cX9_read 13 = .ok (.aload_n 0, 1) := by decide +kernel
theorem dX9_read_14 : decode cX9_read 14 = .ok (.getfield 204, 3) := by decide +kernel
theorem dX9_read_17 : decode cX9_read 17 = .ok (.goto 7, 3) := by decide +kernel
theorem dX9_read_20 : decode cX9_read 20 = .ok (.aload_n 0, 1) := by decide +kernel
theorem dX9_read_21 : decode cX9_read 21 = .ok (.getfield 207, 3) := by decide +kernel
theorem dX9_read_24 : decode cX9_read 24 = .ok (.istore_n 2, 1) := by decide +kernel
theorem dX9_read_25 : decode cX9_read 25 = .ok (.iload_n 1, 1) := by decide +kernel
theorem dX9_read_26 : decode cX9_read 26 = .ok (.ifCond .eq 13, 3) := by decide +kernel
theorem dX9_read_29 : decode cX9_read 29 = .ok (.aload_n 0, 1) := by decide +kernel
theorem dX9_read_30 : decode cX9_read 30 = .ok (.invokevirtual 101, 3) := by decide +kernel
theorem dX9_read_33 : decode cX9_read 33 = .ok (.aload_n 0, 1) := by decide +kernel
theorem dX9_read_34 : decode cX9_read 34 = .ok (.iconst 1, 1) := by decide +kernel
theorem dX9_read_35 : decode cX9_read 35 = .ok (.invokevirtual 230, 3) := by decide +kernel
theorem dX9_read_38 : decode cX9_read 38 = .ok (.pop, 1) := by decide +kernel
theorem dX9_read_39 : decode cX9_read 39 = .ok (.aload_n 0, 1) := by decide +kernel
theorem dX9_read_40 : decode cX9_read 40 = .ok (.iconst 0, 1) := by decide +kernel
theorem dX9_read_41 : decode cX9_read 41 = .ok (.putfield 204, 3) := by decide +kernel
theorem dX9_read_44 : decode cX9_read 44 = .ok (.iload_n 1, 1) := by decide +kernel
theorem dX9_read_45 : decode cX9_read 45 = .ok (.ifCond .eq 10, 3) := by decide +kernel
theorem dX9_read_48 : decode cX9_read 48 = .ok (.aload_n 0, 1) := by decide +kernel
theorem dX9_read_49 : decode cX9_read 49 = .ok (.getfield 221, 3) := by decide +kernel
theorem dX9_read_52 : decode cX9_read 52 = .ok (.goto 7, 3) := by decide +kernel
theorem dX9_read_55 : decode cX9_read 55 = .ok (.bipush (-20), 2) := by decide +kernel
theorem dX9_read_57 : decode cX9_read 57 = .ok (.iload_n 2, 1) := by decide +kernel
theorem dX9_read_58 : decode cX9_read 58 = .ok (.isub, 1) := by decide +kernel
theorem dX9_read_59 : decode cX9_read 59 = .ok (.ireturn, 1) := by decide +kernel
theorem dX9_happens_0 : decode cX9_happens 0 = .ok (.iload_n 1, 1) := by decide +kernel
theorem dX9_happens_1 : decode cX9_happens 1 = .ok (.bipush 16, 2) := by decide +kernel
theorem dX9_happens_3 : decode cX9_happens 3 = .ok (.idiv, 1) := by decide +kernel
theorem dX9_happens_4 : decode cX9_happens 4 = .ok (.bipush 16, 2) := by decide +kernel
theorem dX9_happens_6 : decode cX9_happens 6 = .ok (.irem, 1) := by decide +kernel
theorem dX9_happens_7 : decode cX9_happens 7 = .ok (.istore_n 2, 1) := by decide +kernel
theorem dX9_happens_8 : decode cX9_happens 8 = .ok (.iload_n 1, 1) := by decide +kernel
theorem dX9_happens_9 : decode cX9_happens 9 = .ok (.bipush 8, 2) := by decide +kernel
theorem dX9_happens_11 : decode cX9_happens 11 = .ok (.irem, 1) := by decide +kernel
theorem dX9_happens_12 : decode cX9_happens 12 = .ok (.istore_n 3, 1) := by decide +kernel
theorem dX9_happens_13 : decode cX9_happens 13 = .ok (.iload_n 3, 1) := by decide +kernel
theorem dX9_happens_14 : decode cX9_happens 14 = .ok (.iconst 4, 1) := by decide +kernel
theorem dX9_happens_15 : decode cX9_happens 15 = .ok (.if_icmp .ge 27, 3) := by decide +kernel
theorem dX9_happens_18 : decode cX9_happens 18 = .ok (.aload_n 0, 1) := by decide +kernel
theorem dX9_happens_19 : decode cX9_happens 19 = .ok (.aload_n 0, 1) := by decide +kernel
theorem dX9_happens_20 : decode cX9_happens 20 = .ok (.iload_n 2, 1) := by decide +kernel
theorem dX9_happens_21 : decode cX9_happens 21 = .ok (.invokevirtual 68, 3) := by decide +kernel
theorem dX9_happens_24 : decode cX9_happens 24 = .ok (.ifCond .eq 10, 3) := by decide +kernel
theorem dX9_happens_27 : decode cX9_happens 27 = .ok (.bipush 16, 2) := by decide +kernel
theorem dX9_happens_29 : decode cX9_happens 29 = .ok (.iload_n 2, 1) := by decide +kernel
theorem dX9_happens_30 : decode cX9_happens 30 = .ok (.iadd, 1) := by decide +kernel
theorem dX9_happens_31 : decode cX9_happens 31 = .ok (.goto 4, 3) := by decide +kernel
theorem dX9_happens_34 : decode cX9_happens 34 = .ok (.iload_n 2, 1) := by decide +kernel
theorem dX9_happens_35 : decode cX9_happens 35 = .ok (.invokevirtual 227, 3) := by decide +kernel
theorem dX9_happens_38 : decode cX9_happens 38 = .ok (.pop, 1) := by decide +kernel
theorem dX9_happens_39 : decode cX9_happens 39 = .ok (.goto 96, 3) := by decide +kernel
theorem dX9_happens_42 : decode cX9_happens 42 = .ok (.iload_n 3, 1) := by decide +kernel
theorem dX9_happens_43 : decode cX9_happens 43 = .ok (.bipush 6, 2) := by decide +kernel
theorem dX9_happens_45 : decode cX9_happens 45 = .ok (.if_icmp .ge 13, 3) := by decide +kernel
theorem dX9_happens_48 : decode cX9_happens 48 = .ok (.aload_n 0, 1) := by decide +kernel
theorem dX9_happens_49 : decode cX9_happens 49 = .ok (.bipush 32, 2) := by decide +kernel
theorem dX9_happens_51 : decode cX9_happens 51 = .ok (.invokevirtual 227, 3) := by decide +kernel
theorem dX9_happens_54 : decode cX9_happens 54 = .ok (.pop, 1) := by decide +kernel
theorem dX9_happens_55 : decode cX9_happens 55 = .ok (.goto 80, 3) := by decide +kernel
theorem dX9_happens_58 : decode cX9_happens 58 = .ok (.iload_n 3, 1) := by decide +kernel
theorem dX9_happens_59 : decode cX9_happens 59 = .ok (.bipush 6, 2) := by decide +kernel
theorem dX9_happens_61 : decode cX9_happens 61 = .ok (.if_icmp .ne 51, 3) := by decide +kernel
theorem dX9_happens_64 : decode cX9_happens 64 = .ok (.aload_n 0, 1) := by decide +kernel
theorem dX9_happens_65 : decode cX9_happens 65 = .ok (.iload_n 2, 1) := by decide +kernel
theorem dX9_happens_66 : decode cX9_happens 66 = .ok (.invokevirtual 68, 3) := by decide +kernel
theorem dX9_happens_69 : decode cX9_happens 69 = .ok (.ifCond .eq 43, 3) := by decide +kernel
theorem dX9_happens_72 : decode cX9_happens 72 = .ok (.aload_n 0, 1) := by decide +kernel
theorem dX9_happens_73 : decode cX9_happens 73 = .ok (.iload_n 2, 1) := by decide +kernel
theorem dX9_happens_74 : decode cX9_happens 74 = .ok (.iconst 1, 1) := by decide +kernel
theorem dX9_happens_75 : decode cX9_happens 75 = .ok (.invokevirtual 64, 3) := by decide +kernel
theorem dX9_happens_78 : decode cX9_happens 78 = .ok (.istore 4, 2) := by decide +kernel
theorem dX9_happens_80 : decode cX9_happens 80 = .ok (.aload_n 0, 1) := by decide +kernel
theorem dX9_happens_81 : decode cX9_happens 81 = .ok (.iload_n 2, 1) := by decide +kernel
theorem dX9_happens_82 : decode cX9_happens 82 = .ok (.iconst 1, 1) := by decide +kernel
theorem dX9_happens_83 : decode cX9_happens 83 = .ok (.iconst 1, 1) := by decide +kernel
theorem dX9_happens_84 : decode cX9_happens 84 = .ok (.iload 4, 2) := by decide +kernel
theorem dX9_happens_86 : decode cX9_happens 86 = .ok (.isub, 1) := by decide +kernel
theorem dX9_happens_87 : decode cX9_happens 87 = .ok (.invokevirtual 104, 3) := by decide +kernel
theorem dX9_happens_90 : decode cX9_happens 90 = .ok (.aload_n 0, 1) := by decide +kernel
theorem dX9_happens_91 : decode cX9_happens 91 = .ok (.iload 4, 2) := by decide +kernel
theorem dX9_happens_93 : decode cX9_happens 93 = .ok (.iconst 1, 1) := by decide +kernel
theorem dX9_happens_94 : decode cX9_happens 94 = .ok (.if_icmp .ne 11, 3) := by decide +kernel
theorem dX9_happens_97 : decode cX9_happens 97 = .ok (.aload_n 0, 1) := by decide +kernel
theorem dX9_happens_98 : decode cX9_happens 98 = .ok (.iload_n 2, 1) := by decide +kernel
theorem dX9_happens_99 : decode cX9_happens 99 = .ok (.invokevirtual 123, 3) := by decide +kernel
theorem dX9_happens_102 : decode cX9_happens 102 = .ok (.goto 4, 3) := by decide +kernel
theorem dX9_happens_105 : decode cX9_happens 105 = .ok (.iconst 0, 1) := by decide +kernel
theorem dX9_happens_106 : decode cX9_happens 106 = .ok (.putfield 221, 3) := by decide +kernel
theorem dX9_happens_109 : decode cX9_happens 109 = .ok (.goto 26, 3) := by decide +kernel
theorem dX9_happens_112 : decode cX9_happens 112 = .ok (.iload_n 3, 1) := by decide +kernel
theorem dX9_happens_113 : decode cX9_happens 113 = .ok (.bipush 7, 2) := by decide +kernel
theorem dX9_happens_115 : decode cX9_happens 115 = .ok (.if_icmp .ne 20, 3) := by decide +kernel
theorem dX9_happens_118 : decode cX9_happens 118 = .ok (.aload_n 0, 1) := by decide +kernel
theorem dX9_happens_119 : decode cX9_happens 119 = .ok (.iload_n 2, 1) := by decide +kernel
theorem dX9_happens_120 : decode cX9_happens 120 = .ok (.invokevirtual 160, 3) := by decide +kernel
theorem dX9_happens_123 : decode cX9_happens 123 = .ok (.ifCond .ne 12, 3) := by decide +kernel
theorem dX9_happens_126 : decode cX9_happens 126 = .ok (.aload_n 0, 1) := by decide +kernel
theorem dX9_happens_127 : decode cX9_happens 127 = .ok (.aload_n 0, 1) := by decide +kernel
theorem dX9_happens_128 : decode cX9_happens 128 = .ok (.iload_n 2, 1) := by decide +kernel
theorem dX9_happens_129 : decode cX9_happens 129 = .ok (.invokevirtual 163, 3) := by decide +kernel
theorem dX9_happens_132 : decode cX9_happens 132 = .ok (.putfield 221, 3) := by decide +kernel
theorem dX9_happens_135 : decode cX9_happens 135 = .ok (.return_, 1) := by decide +kernel
theorem dX9_drift_0 : decode cX9_drift 0 = .ok (.iload_n 1, 1) := by decide +kernel
theorem dX9_drift_1 : decode cX9_drift 1 = .ok (.i2l, 1) := by decide +kernel
theorem dX9_drift_2 : decode cX9_drift 2 = .ok (.lconst 1, 1) := by decide +kernel
theorem dX9_drift_3 : decode cX9_drift 3 = .ok (.ldc2_w 155, 3) := by decide +kernel
theorem dX9_drift_6 : decode cX9_drift 6 = .ok (.invokestatic 60, 3) := by decide +kernel
theorem dX9_drift_9 : decode cX9_drift 9 = .ok (.ifCond .ne 5, 3) := by decide +kernel
theorem dX9_drift_12 : decode cX9_drift 12 = .ok (.iconst (-1), 1) := by decide +kernel
theorem dX9_drift_13 : decode cX9_drift 13 = .ok (.ireturn, 1) := by decide +kernel
theorem dX9_drift_14 : decode cX9_drift 14 = .ok (.iconst 0, 1) := by decide +kernel
theorem dX9_drift_15 : decode cX9_drift 15 = .ok (.istore_n 2, 1) := by decide +kernel
theorem dX9_drift_16 : decode cX9_drift 16 = .ok (.iload_n 2, 1) := by decide +kernel
theorem dX9_drift_17 : decode cX9_drift 17 = .ok (.iload_n 1, 1) := by decide +kernel
theorem dX9_drift_18 : decode cX9_drift 18 = .ok (.if_icmp .ge 51, 3) := by decide +kernel
theorem dX9_drift_21 : decode cX9_drift 21 = .ok (.aload_n 0, 1) := by decide +kernel
theorem dX9_drift_22 : decode cX9_drift 22 = .ok (.invokevirtual 101, 3) := by decide +kernel
theorem dX9_drift_25 : decode cX9_drift 25 = .ok (.aload_n 0, 1) := by decide +kernel
theorem dX9_drift_26 : decode cX9_drift 26 = .ok (.getfield 7, 3) := by decide +kernel
theorem dX9_drift_29 : decode cX9_drift 29 = .ok (.iconst 3, 1) := by decide +kernel
theorem dX9_drift_30 : decode cX9_drift 30 = .ok (.iaload, 1) := by decide +kernel
theorem dX9_drift_31 : decode cX9_drift 31 = .ok (.i2l, 1) := by decide +kernel
theorem dX9_drift_32 : decode cX9_drift 32 = .ok (.ldc2_w 234, 3) := by decide +kernel
theorem dX9_drift_35 : decode cX9_drift 35 = .ok (.lmul, 1) := by decide +kernel
theorem dX9_drift_36 : decode cX9_drift 36 = .ok (.ldc2_w 236, 3) := by decide +kernel
theorem dX9_drift_39 : decode cX9_drift 39 = .ok (.ladd, 1) := by decide +kernel
theorem dX9_drift_40 : decode cX9_drift 40 = .ok (.ldc2_w 238, 3) := by decide +kernel
theorem dX9_drift_43 : decode cX9_drift 43 = .ok (.lrem, 1) := by decide +kernel
theorem dX9_drift_44 : decode cX9_drift 44 = .ok (.lstore_n 3, 1) := by decide +kernel
theorem dX9_drift_45 : decode cX9_drift 45 = .ok (.aload_n 0, 1) := by decide +kernel
theorem dX9_drift_46 : decode cX9_drift 46 = .ok (.getfield 7, 3) := by decide +kernel
theorem dX9_drift_49 : decode cX9_drift 49 = .ok (.iconst 3, 1) := by decide +kernel
theorem dX9_drift_50 : decode cX9_drift 50 = .ok (.lload_n 3, 1) := by decide +kernel
theorem dX9_drift_51 : decode cX9_drift 51 = .ok (.l2i, 1) := by decide +kernel
theorem dX9_drift_52 : decode cX9_drift 52 = .ok (.iastore, 1) := by decide +kernel
theorem dX9_drift_53 : decode cX9_drift 53 = .ok (.aload_n 0, 1) := by decide +kernel
theorem dX9_drift_54 : decode cX9_drift 54 = .ok (.lload_n 3, 1) := by decide +kernel
theorem dX9_drift_55 : decode cX9_drift 55 = .ok (.ldc2_w 240, 3) := by decide +kernel
theorem dX9_drift_58 : decode cX9_drift 58 = .ok (.ldiv, 1) := by decide +kernel
theorem dX9_drift_59 : decode cX9_drift 59 = .ok (.l2i, 1) := by decide +kernel
theorem dX9_drift_60 : decode cX9_drift 60 = .ok (.invokevirtual 242, 3) := by decide +kernel
theorem dX9_drift_63 : decode cX9_drift 63 = .ok (.iinc 2 1, 3) := by decide +kernel
theorem dX9_drift_66 : decode cX9_drift 66 = .ok (.goto (-50), 3) := by decide +kernel
theorem dX9_drift_69 : decode cX9_drift 69 = .ok (.aload_n 0, 1) := by decide +kernel
theorem dX9_drift_70 : decode cX9_drift 70 = .ok (.iconst 0, 1) := by decide +kernel
theorem dX9_drift_71 : decode cX9_drift 71 = .ok (.iconst 0, 1) := by decide +kernel
theorem dX9_drift_72 : decode cX9_drift 72 = .ok (.invokevirtual 108, 3) := by decide +kernel
theorem dX9_drift_75 : decode cX9_drift 75 = .ok (.ireturn, 1) := by decide +kernel
theorem dX9_seed_0 : decode cX9_seed 0 = .ok (.iload_n 1, 1) := by decide +kernel
theorem dX9_seed_1 : decode cX9_seed 1 = .ok (.ifCond .ge 5, 3) := by decide +kernel
theorem dX9_seed_4 : decode cX9_seed 4 = .ok (.iconst (-1), 1) := by decide +kernel
theorem dX9_seed_5 : decode cX9_seed 5 = .ok (.ireturn, 1) := by decide +kernel
theorem dX9_seed_6 : decode cX9_seed 6 = .ok (.aload_n 0, 1) := by decide +kernel
theorem dX9_seed_7 : decode cX9_seed 7 = .ok (.getfield 7, 3) := by decide +kernel
theorem dX9_seed_10 : decode cX9_seed 10 = .ok (.iconst 3, 1) := by decide +kernel
theorem dX9_seed_11 : decode cX9_seed 11 = .ok (.iaload, 1) := by decide +kernel
theorem dX9_seed_12 : decode cX9_seed 12 = .ok (.istore_n 2, 1) := by decide +kernel
theorem dX9_seed_13 : decode cX9_seed 13 = .ok (.aload_n 0, 1) := by decide +kernel
theorem dX9_seed_14 : decode cX9_seed 14 = .ok (.getfield 7, 3) := by decide +kernel
theorem dX9_seed_17 : decode cX9_seed 17 = .ok (.iconst 3, 1) := by decide +kernel
theorem dX9_seed_18 : decode cX9_seed 18 = .ok (.iload_n 1, 1) := by decide +kernel
theorem dX9_seed_19 : decode cX9_seed 19 = .ok (.iastore, 1) := by decide +kernel
theorem dX9_seed_20 : decode cX9_seed 20 = .ok (.iload_n 2, 1) := by decide +kernel
theorem dX9_seed_21 : decode cX9_seed 21 = .ok (.ireturn, 1) := by decide +kernel
theorem dX9_notes_0 : decode cX9_notes 0 = .ok (.aload_n 0, 1) := by decide +kernel
theorem dX9_notes_1 : decode cX9_notes 1 = .ok (.getfield 169, 3) := by decide +kernel
theorem dX9_notes_4 : decode cX9_notes 4 = .ok (.bipush 6, 2) := by decide +kernel
theorem dX9_notes_6 : decode cX9_notes 6 = .ok (.if_icmp .ne 41, 3) := by decide +kernel
theorem dX9_notes_9 : decode cX9_notes 9 = .ok (.sipush 752, 3) := by decide +kernel
theorem dX9_notes_12 : decode cX9_notes 12 = .ok (.istore_n 1, 1) := by decide +kernel
theorem dX9_notes_13 : decode cX9_notes 13 = .ok (.iload_n 1, 1) := by decide +kernel
theorem dX9_notes_14 : decode cX9_notes 14 = .ok (.sipush 4512, 3) := by decide +kernel
theorem dX9_notes_17 : decode cX9_notes 17 = .ok (.if_icmp .ge 25, 3) := by decide +kernel
theorem dX9_notes_20 : decode cX9_notes 20 = .ok (.aload_n 0, 1) := by decide +kernel
theorem dX9_notes_21 : decode cX9_notes 21 = .ok (.getfield 29, 3) := by decide +kernel
theorem dX9_notes_24 : decode cX9_notes 24 = .ok (.iload_n 1, 1) := by decide +kernel
theorem dX9_notes_25 : decode cX9_notes 25 = .ok (.sipush 752, 3) := by decide +kernel
theorem dX9_notes_28 : decode cX9_notes 28 = .ok (.isub, 1) := by decide +kernel
theorem dX9_notes_29 : decode cX9_notes 29 = .ok (.aload_n 0, 1) := by decide +kernel
theorem dX9_notes_30 : decode cX9_notes 30 = .ok (.getfield 29, 3) := by decide +kernel
theorem dX9_notes_33 : decode cX9_notes 33 = .ok (.iload_n 1, 1) := by decide +kernel
theorem dX9_notes_34 : decode cX9_notes 34 = .ok (.iaload, 1) := by decide +kernel
theorem dX9_notes_35 : decode cX9_notes 35 = .ok (.iastore, 1) := by decide +kernel
theorem dX9_notes_36 : decode cX9_notes 36 = .ok (.iinc 1 1, 3) := by decide +kernel
theorem dX9_notes_39 : decode cX9_notes 39 = .ok (.goto (-26), 3) := by decide +kernel
theorem dX9_notes_42 : decode cX9_notes 42 = .ok (.aload_n 0, 1) := by decide +kernel
theorem dX9_notes_43 : decode cX9_notes 43 = .ok (.iconst 5, 1) := by decide +kernel
theorem dX9_notes_44 : decode cX9_notes 44 = .ok (.putfield 169, 3) := by decide +kernel
theorem dX9_notes_47 : decode cX9_notes 47 = .ok (.iconst 0, 1) := by decide +kernel
theorem dX9_notes_48 : decode cX9_notes 48 = .ok (.istore_n 1, 1) := by decide +kernel
theorem dX9_notes_49 : decode cX9_notes 49 = .ok (.iload_n 1, 1) := by decide +kernel
theorem dX9_notes_50 : decode cX9_notes 50 = .ok (.sipush 752, 3) := by decide +kernel
theorem dX9_notes_53 : decode cX9_notes 53 = .ok (.if_icmp .ge 30, 3) := by decide +kernel
theorem dX9_notes_56 : decode cX9_notes 56 = .ok (.aload_n 0, 1) := by decide +kernel
theorem dX9_notes_57 : decode cX9_notes 57 = .ok (.getfield 29, 3) := by decide +kernel
theorem dX9_notes_60 : decode cX9_notes 60 = .ok (.sipush 752, 3) := by decide +kernel
theorem dX9_notes_63 : decode cX9_notes 63 = .ok (.aload_n 0, 1) := by decide +kernel
theorem dX9_notes_64 : decode cX9_notes 64 = .ok (.getfield 169, 3) := by decide +kernel
theorem dX9_notes_67 : decode cX9_notes 67 = .ok (.imul, 1) := by decide +kernel
theorem dX9_notes_68 : decode cX9_notes 68 = .ok (.iload_n 1, 1) := by decide +kernel
theorem dX9_notes_69 : decode cX9_notes 69 = .ok (.iadd, 1) := by decide +kernel
theorem dX9_notes_70 : decode cX9_notes 70 = .ok (.aload_n 0, 1) := by decide +kernel
theorem dX9_notes_71 : decode cX9_notes 71 = .ok (.getfield 7, 3) := by decide +kernel
theorem dX9_notes_74 : decode cX9_notes 74 = .ok (.iload_n 1, 1) := by decide +kernel
theorem dX9_notes_75 : decode cX9_notes 75 = .ok (.iaload, 1) := by decide +kernel
theorem dX9_notes_76 : decode cX9_notes 76 = .ok (.iastore, 1) := by decide +kernel
theorem dX9_notes_77 : decode cX9_notes 77 = .ok (.iinc 1 1, 3) := by decide +kernel
theorem dX9_notes_80 : decode cX9_notes 80 = .ok (.goto (-31), 3) := by decide +kernel
theorem dX9_notes_83 : decode cX9_notes 83 = .ok (.aload_n 0, 1) := by decide +kernel
theorem dX9_notes_84 : decode cX9_notes 84 = .ok (.dup, 1) := by decide +kernel
theorem dX9_notes_85 : decode cX9_notes 85 = .ok (.getfield 169, 3) := by decide +kernel
theorem dX9_notes_88 : decode cX9_notes 88 = .ok (.iconst 1, 1) := by decide +kernel
theorem dX9_notes_89 : decode cX9_notes 89 = .ok (.iadd, 1) := by decide +kernel
theorem dX9_notes_90 : decode cX9_notes 90 = .ok (.putfield 169, 3) := by decide +kernel
theorem dX9_notes_93 : decode cX9_notes 93 = .ok (.return_, 1) := by decide +kernel
theorem dX9_undo_0 : decode cX9_undo 0 = .ok (.aload_n 0, 1) := by decide +kernel
theorem dX9_undo_1 : decode cX9_undo 1 = .ok (.getfield 169, 3) := by decide +kernel
theorem dX9_undo_4 : decode cX9_undo 4 = .ok (.ifCond .ne 6, 3) := by decide +kernel
theorem dX9_undo_7 : decode cX9_undo 7 = .ok (.bipush (-4), 2) := by decide +kernel
theorem dX9_undo_9 : decode cX9_undo 9 = .ok (.ireturn, 1) := by decide +kernel
theorem dX9_undo_10 : decode cX9_undo 10 = .ok (.aload_n 0, 1) := by decide +kernel
theorem dX9_undo_11 : decode cX9_undo 11 = .ok (.dup, 1) := by decide +kernel
theorem dX9_undo_12 : decode cX9_undo 12 = .ok (.getfield 169, 3) := by decide +kernel
theorem dX9_undo_15 : decode cX9_undo 15 = .ok (.iconst 1, 1) := by decide +kernel
theorem dX9_undo_16 : decode cX9_undo 16 = .ok (.isub, 1) := by decide +kernel
theorem dX9_undo_17 : decode cX9_undo 17 = .ok (.putfield 169, 3) := by decide +kernel
theorem dX9_undo_20 : decode cX9_undo 20 = .ok (.iconst 0, 1) := by decide +kernel
theorem dX9_undo_21 : decode cX9_undo 21 = .ok (.istore_n 1, 1) := by decide +kernel
theorem dX9_undo_22 : decode cX9_undo 22 = .ok (.iload_n 1, 1) := by decide +kernel
theorem dX9_undo_23 : decode cX9_undo 23 = .ok (.sipush 752, 3) := by decide +kernel
theorem dX9_undo_26 : decode cX9_undo 26 = .ok (.if_icmp .ge 30, 3) := by decide +kernel
theorem dX9_undo_29 : decode cX9_undo 29 = .ok (.aload_n 0, 1) := by decide +kernel
theorem dX9_undo_30 : decode cX9_undo 30 = .ok (.getfield 7, 3) := by decide +kernel
theorem dX9_undo_33 : decode cX9_undo 33 = .ok (.iload_n 1, 1) := by decide +kernel
theorem dX9_undo_34 : decode cX9_undo 34 = .ok (.aload_n 0, 1) := by decide +kernel
theorem dX9_undo_35 : decode cX9_undo 35 = .ok (.getfield 29, 3) := by decide +kernel
theorem dX9_undo_38 : decode cX9_undo 38 = .ok (.sipush 752, 3) := by decide +kernel
theorem dX9_undo_41 : decode cX9_undo 41 = .ok (.aload_n 0, 1) := by decide +kernel
theorem dX9_undo_42 : decode cX9_undo 42 = .ok (.getfield 169, 3) := by decide +kernel
theorem dX9_undo_45 : decode cX9_undo 45 = .ok (.imul, 1) := by decide +kernel
theorem dX9_undo_46 : decode cX9_undo 46 = .ok (.iload_n 1, 1) := by decide +kernel
theorem dX9_undo_47 : decode cX9_undo 47 = .ok (.iadd, 1) := by decide +kernel
theorem dX9_undo_48 : decode cX9_undo 48 = .ok (.iaload, 1) := by decide +kernel
theorem dX9_undo_49 : decode cX9_undo 49 = .ok (.iastore, 1) := by decide +kernel
theorem dX9_undo_50 : decode cX9_undo 50 = .ok (.iinc 1 1, 3) := by decide +kernel
theorem dX9_undo_53 : decode cX9_undo 53 = .ok (.goto (-31), 3) := by decide +kernel
theorem dX9_undo_56 : decode cX9_undo 56 = .ok (.aload_n 0, 1) := by decide +kernel
theorem dX9_undo_57 : decode cX9_undo 57 = .ok (.getfield 169, 3) := by decide +kernel
theorem dX9_undo_60 : decode cX9_undo 60 = .ok (.ireturn, 1) := by decide +kernel
theorem dX9_image_0 : decode cX9_image 0 = .ok (.iconst 0, 1) := by decide +kernel
theorem dX9_image_1 : decode cX9_image 1 = .ok (.istore_n 1, 1) := by decide +kernel
theorem dX9_image_2 : decode cX9_image 2 = .ok (.iload_n 1, 1) := by decide +kernel
theorem dX9_image_3 : decode cX9_image 3 = .ok (.sipush 752, 3) := by decide +kernel
theorem dX9_image_6 : decode cX9_image 6 = .ok (.if_icmp .ge 21, 3) := by decide +kernel
theorem dX9_image_9 : decode cX9_image 9 = .ok (.aload_n 0, 1) := by decide +kernel
theorem dX9_image_10 : decode cX9_image 10 = .ok (.getfield 32, 3) := by decide +kernel
theorem dX9_image_13 : decode cX9_image 13 = .ok (.iload_n 1, 1) := by decide +kernel
theorem dX9_image_14 : decode cX9_image 14 = .ok (.aload_n 0, 1) := by decide +kernel
theorem dX9_image_15 : decode cX9_image 15 = .ok (.getfield 7, 3) := by decide +kernel
theorem dX9_image_18 : decode cX9_image 18 = .ok (.iload_n 1, 1) := by decide +kernel
theorem dX9_image_19 : decode cX9_image 19 = .ok (.iaload, 1) := by decide +kernel
theorem dX9_image_20 : decode cX9_image 20 = .ok (.iastore, 1) := by decide +kernel
theorem dX9_image_21 : decode cX9_image 21 = .ok (.iinc 1 1, 3) := by decide +kernel
theorem dX9_image_24 : decode cX9_image 24 = .ok (.goto (-22), 3) := by decide +kernel
theorem dX9_image_27 : decode cX9_image 27 = .ok (.iconst 0, 1) := by decide +kernel
theorem dX9_image_28 : decode cX9_image 28 = .ok (.istore_n 1, 1) := by decide +kernel
theorem dX9_image_29 : decode cX9_image 29 = .ok (.iload_n 1, 1) := by decide +kernel
theorem dX9_image_30 : decode cX9_image 30 = .ok (.sipush 4512, 3) := by decide +kernel
theorem dX9_image_33 : decode cX9_image 33 = .ok (.if_icmp .ge 21, 3) := by decide +kernel
theorem dX9_image_36 : decode cX9_image 36 = .ok (.aload_n 0, 1) := by decide +kernel
theorem dX9_image_37 : decode cX9_image 37 = .ok (.getfield 35, 3) := by decide +kernel
theorem dX9_image_40 : decode cX9_image 40 = .ok (.iload_n 1, 1) := by decide +kernel
theorem dX9_image_41 : decode cX9_image 41 = .ok (.aload_n 0, 1) := by decide +kernel
theorem dX9_image_42 : decode cX9_image 42 = .ok (.getfield 29, 3) := by decide +kernel
theorem dX9_image_45 : decode cX9_image 45 = .ok (.iload_n 1, 1) := by decide +kernel
theorem dX9_image_46 : decode cX9_image 46 = .ok (.iaload, 1) := by decide +kernel
theorem dX9_image_47 : decode cX9_image 47 = .ok (.iastore, 1) := by decide +kernel
theorem dX9_image_48 : decode cX9_image 48 = .ok (.iinc 1 1, 3) := by decide +kernel
theorem dX9_image_51 : decode cX9_image 51 = .ok (.goto (-22), 3) := by decide +kernel
theorem dX9_image_54 : decode cX9_image 54 = .ok (.aload_n 0, 1) := by decide +kernel
theorem dX9_image_55 : decode cX9_image 55 = .ok (.aload_n 0, 1) := by decide +kernel
theorem dX9_image_56 : decode cX9_image 56 = .ok (.getfield 169, 3) := by decide +kernel
theorem dX9_image_59 : decode cX9_image 59 = .ok (.putfield 38, 3) := by decide +kernel
theorem dX9_image_62 : decode cX9_image 62 = .ok (.iconst 1, 1) := by decide +kernel
theorem dX9_image_63 : decode cX9_image 63 = .ok (.ireturn, 1) := by decide +kernel
theorem dX9_restore_0 : decode cX9_restore 0 = .ok (.aload_n 0, 1) := by decide +kernel
theorem dX9_restore_1 : decode cX9_restore 1 = .ok (.getfield 38, 3) := by decide +kernel
theorem dX9_restore_4 : decode cX9_restore 4 = .ok (.ifCond .ge 6, 3) := by decide +kernel
theorem dX9_restore_7 : decode cX9_restore 7 = .ok (.bipush (-4), 2) := by decide +kernel
theorem dX9_restore_9 : decode cX9_restore 9 = .ok (.ireturn, 1) := by decide +kernel
theorem dX9_restore_10 : decode cX9_restore 10 = .ok (.iconst 0, 1) := by decide +kernel
theorem dX9_restore_11 : decode cX9_restore 11 = .ok (.istore_n 1, 1) := by decide +kernel
theorem dX9_restore_12 : decode cX9_restore 12 = .ok (.iload_n 1, 1) := by decide +kernel
theorem dX9_restore_13 : decode cX9_restore 13 = .ok (.sipush 752, 3) := by decide +kernel
theorem dX9_restore_16 : decode cX9_restore 16 = .ok (.if_icmp .ge 21, 3) := by decide +kernel
theorem dX9_restore_19 : decode cX9_restore 19 = .ok (.aload_n 0, 1) := by decide +kernel
theorem dX9_restore_20 : decode cX9_restore 20 = .ok (.getfield 7, 3) := by decide +kernel
theorem dX9_restore_23 : decode cX9_restore 23 = .ok (.iload_n 1, 1) := by decide +kernel
theorem dX9_restore_24 : decode cX9_restore 24 = .ok (.aload_n 0, 1) := by decide +kernel
theorem dX9_restore_25 : decode cX9_restore 25 = .ok (.getfield 32, 3) := by decide +kernel
theorem dX9_restore_28 : decode cX9_restore 28 = .ok (.iload_n 1, 1) := by decide +kernel
theorem dX9_restore_29 : decode cX9_restore 29 = .ok (.iaload, 1) := by decide +kernel
theorem dX9_restore_30 : decode cX9_restore 30 = .ok (.iastore, 1) := by decide +kernel
theorem dX9_restore_31 : decode cX9_restore 31 = .ok (.iinc 1 1, 3) := by decide +kernel
theorem dX9_restore_34 : decode cX9_restore 34 = .ok (.goto (-22), 3) := by decide +kernel
theorem dX9_restore_37 : decode cX9_restore 37 = .ok (.iconst 0, 1) := by decide +kernel
theorem dX9_restore_38 : decode cX9_restore 38 = .ok (.istore_n 1, 1) := by decide +kernel
theorem dX9_restore_39 : decode cX9_restore 39 = .ok (.iload_n 1, 1) := by decide +kernel
theorem dX9_restore_40 : decode cX9_restore 40 = .ok (.sipush 4512, 3) := by decide +kernel
theorem dX9_restore_43 : decode cX9_restore 43 = .ok (.if_icmp .ge 21, 3) := by decide +kernel
theorem dX9_restore_46 : decode cX9_restore 46 = .ok (.aload_n 0, 1) := by decide +kernel
theorem dX9_restore_47 : decode cX9_restore 47 = .ok (.getfield 29, 3) := by decide +kernel
theorem dX9_restore_50 : decode cX9_restore 50 = .ok (.iload_n 1, 1) := by decide +kernel
theorem dX9_restore_51 : decode cX9_restore 51 = .ok (.aload_n 0, 1) := by decide +kernel
theorem dX9_restore_52 : decode cX9_restore 52 = .ok (.getfield 35, 3) := by decide +kernel
theorem dX9_restore_55 : decode cX9_restore 55 = .ok (.iload_n 1, 1) := by decide +kernel
theorem dX9_restore_56 : decode cX9_restore 56 = .ok (.iaload, 1) := by decide +kernel
theorem dX9_restore_57 : decode cX9_restore 57 = .ok (.iastore, 1) := by decide +kernel
theorem dX9_restore_58 : decode cX9_restore 58 = .ok (.iinc 1 1, 3) := by decide +kernel
theorem dX9_restore_61 : decode cX9_restore 61 = .ok (.goto (-22), 3) := by decide +kernel
theorem dX9_restore_64 : decode cX9_restore 64 = .ok (.aload_n 0, 1) := by decide +kernel
theorem dX9_restore_65 : decode cX9_restore 65 = .ok (.aload_n 0, 1) := by decide +kernel
theorem dX9_restore_66 : decode cX9_restore 66 = .ok (.getfield 38, 3) := by decide +kernel
theorem dX9_restore_69 : decode cX9_restore 69 = .ok (.putfield 169, 3) := by decide +kernel
theorem dX9_restore_72 : decode cX9_restore 72 = .ok (.iconst 1, 1) := by decide +kernel
theorem dX9_restore_73 : decode cX9_restore 73 = .ok (.ireturn, 1) := by decide +kernel
theorem dX9_isSheet_0 : decode cX9_isSheet 0 = .ok (.iload_n 0, 1) := by decide +kernel
theorem dX9_isSheet_1 : decode cX9_isSheet 1 = .ok (.i2l, 1) := by decide +kernel
theorem dX9_isSheet_2 : decode cX9_isSheet 2 = .ok (.lconst 0, 1) := by decide +kernel
theorem dX9_isSheet_3 : decode cX9_isSheet 3 = .ok (.ldc2_w 245, 3) := by decide +kernel
theorem dX9_isSheet_6 : decode cX9_isSheet 6 = .ok (.invokestatic 60, 3) := by decide +kernel
theorem dX9_isSheet_9 : decode cX9_isSheet 9 = .ok (.ireturn, 1) := by decide +kernel
theorem dX9_cut_0 : decode cX9_cut 0 = .ok (.iload_n 2, 1) := by decide +kernel
theorem dX9_cut_1 : decode cX9_cut 1 = .ok (.ifCond .ne 10, 3) := by decide +kernel
theorem dX9_cut_4 : decode cX9_cut 4 = .ok (.lload_n 0, 1) := by decide +kernel
theorem dX9_cut_5 : decode cX9_cut 5 = .ok (.l2i, 1) := by decide +kernel
theorem dX9_cut_6 : decode cX9_cut 6 = .ok (.i2b, 1) := by decide +kernel
theorem dX9_cut_7 : decode cX9_cut 7 = .ok (.i2l, 1) := by decide +kernel
theorem dX9_cut_8 : decode cX9_cut 8 = .ok (.goto 27, 3) := by decide +kernel
theorem dX9_cut_11 : decode cX9_cut 11 = .ok (.iload_n 2, 1) := by decide +kernel
theorem dX9_cut_12 : decode cX9_cut 12 = .ok (.iconst 1, 1) := by decide +kernel
theorem dX9_cut_13 : decode cX9_cut 13 = .ok (.if_icmp .ne 10, 3) := by decide +kernel
theorem dX9_cut_16 : decode cX9_cut 16 = .ok (.lload_n 0, 1) := by decide +kernel
theorem dX9_cut_17 : decode cX9_cut 17 = .ok (.l2i, 1) := by decide +kernel
theorem dX9_cut_18 : decode cX9_cut 18 = .ok (.i2s, 1) := by decide +kernel
theorem dX9_cut_19 : decode cX9_cut 19 = .ok (.i2l, 1) := by decide +kernel
theorem dX9_cut_20 : decode cX9_cut 20 = .ok (.goto 15, 3) := by decide +kernel
theorem dX9_cut_23 : decode cX9_cut 23 = .ok (.iload_n 2, 1) := by decide +kernel
theorem dX9_cut_24 : decode cX9_cut 24 = .ok (.iconst 2, 1) := by decide +kernel
theorem dX9_cut_25 : decode cX9_cut 25 = .ok (.if_icmp .ne 9, 3) := by decide +kernel
theorem dX9_cut_28 : decode cX9_cut 28 = .ok (.lload_n 0, 1) := by decide +kernel
theorem dX9_cut_29 : decode cX9_cut 29 = .ok (.l2i, 1) := by decide +kernel
theorem dX9_cut_30 : decode cX9_cut 30 = .ok (.i2l, 1) := by decide +kernel
theorem dX9_cut_31 : decode cX9_cut 31 = .ok (.goto 4, 3) := by decide +kernel
theorem dX9_cut_34 : decode cX9_cut 34 = .ok (.lload_n 0, 1) := by decide +kernel
theorem dX9_cut_35 : decode cX9_cut 35 = .ok (.lreturn, 1) := by decide +kernel
theorem dX9_sheet_0 : decode cX9_sheet 0 = .ok (.iload_n 1, 1) := by decide +kernel
theorem dX9_sheet_1 : decode cX9_sheet 1 = .ok (.invokestatic 247, 3) := by decide +kernel
theorem dX9_sheet_4 : decode cX9_sheet 4 = .ok (.ifCond .eq 21, 3) := by decide +kernel
theorem dX9_sheet_7 : decode cX9_sheet 7 = .ok (.iload_n 2, 1) := by decide +kernel
theorem dX9_sheet_8 : decode cX9_sheet 8 = .ok (.i2l, 1) := by decide +kernel
theorem dX9_sheet_9 : decode cX9_sheet 9 = .ok (.lconst 0, 1) := by decide +kernel
theorem dX9_sheet_10 : decode cX9_sheet 10 = .ok (.ldc2_w 245, 3) := by decide +kernel
theorem dX9_sheet_13 : decode cX9_sheet 13 = .ok (.invokestatic 60, 3) := by decide +kernel
theorem dX9_sheet_16 : decode cX9_sheet 16 = .ok (.ifCond .eq 9, 3) := by decide +kernel
theorem dX9_sheet_19 : decode cX9_sheet 19 = .ok (.iload_n 3, 1) := by decide +kernel
theorem dX9_sheet_20 : decode cX9_sheet 20 = .ok (.bipush 24, 2) := by decide +kernel
theorem dX9_sheet_22 : decode cX9_sheet 22 = .ok (.if_icmp .le 5, 3) := by decide +kernel
theorem dX9_sheet_25 : decode cX9_sheet 25 = .ok (.iconst (-1), 1) := by decide +kernel
theorem dX9_sheet_26 : decode cX9_sheet 26 = .ok (.ireturn, 1) := by decide +kernel
theorem dX9_sheet_27 : decode cX9_sheet 27 = .ok (.iload_n 3, 1) := by decide +kernel
theorem dX9_sheet_28 : decode cX9_sheet 28 = .ok (.ifCond .ge 6, 3) := by decide +kernel
theorem dX9_sheet_31 : decode cX9_sheet 31 = .ok (.bipush (-14), 2) := by decide +kernel
theorem dX9_sheet_33 : decode cX9_sheet 33 = .ok (.ireturn, 1) := by decide +kernel
theorem dX9_sheet_34 : decode cX9_sheet 34 = .ok (.aload_n 0, 1) := by decide +kernel
theorem dX9_sheet_35 : decode cX9_sheet 35 = .ok (.getfield 42, 3) := by decide +kernel
theorem dX9_sheet_38 : decode cX9_sheet 38 = .ok (.iload_n 1, 1) := by decide +kernel
theorem dX9_sheet_39 : decode cX9_sheet 39 = .ok (.iload_n 2, 1) := by decide +kernel
theorem dX9_sheet_40 : decode cX9_sheet 40 = .ok (.iastore, 1) := by decide +kernel
theorem dX9_sheet_41 : decode cX9_sheet 41 = .ok (.aload_n 0, 1) := by decide +kernel
theorem dX9_sheet_42 : decode cX9_sheet 42 = .ok (.getfield 45, 3) := by decide +kernel
theorem dX9_sheet_45 : decode cX9_sheet 45 = .ok (.iload_n 1, 1) := by decide +kernel
theorem dX9_sheet_46 : decode cX9_sheet 46 = .ok (.iload_n 3, 1) := by decide +kernel
theorem dX9_sheet_47 : decode cX9_sheet 47 = .ok (.iastore, 1) := by decide +kernel
theorem dX9_sheet_48 : decode cX9_sheet 48 = .ok (.iconst 0, 1) := by decide +kernel
theorem dX9_sheet_49 : decode cX9_sheet 49 = .ok (.istore 4, 2) := by decide +kernel
theorem dX9_sheet_51 : decode cX9_sheet 51 = .ok (.iload 4, 2) := by decide +kernel
theorem dX9_sheet_53 : decode cX9_sheet 53 = .ok (.bipush 24, 2) := by decide +kernel
theorem dX9_sheet_55 : decode cX9_sheet 55 = .ok (.if_icmp .ge 22, 3) := by decide +kernel
theorem dX9_sheet_58 : decode cX9_sheet 58 = .ok (.aload_n 0, 1) := by decide +kernel
theorem dX9_sheet_59 : decode cX9_sheet 59 = .ok (.getfield 48, 3) := by decide +kernel
theorem dX9_sheet_62 : decode cX9_sheet 62 = .ok (.bipush 24, 2) := by decide +kernel
theorem dX9_sheet_64 : decode cX9_sheet 64 = .ok (.iload_n 1, 1) := by decide +kernel
theorem dX9_sheet_65 : decode cX9_sheet 65 = .ok (.imul, 1) := by decide +kernel
theorem dX9_sheet_66 : decode cX9_sheet 66 = .ok (.iload 4, 2) := by decide +kernel
theorem dX9_sheet_68 : decode cX9_sheet 68 = .ok (.iadd, 1) := by decide +kernel
theorem dX9_sheet_69 : decode cX9_sheet 69 = .ok (.lconst 0, 1) := by decide +kernel
theorem dX9_sheet_70 : decode cX9_sheet 70 = .ok (.lastore, 1) := by decide +kernel
theorem dX9_sheet_71 : decode cX9_sheet 71 = .ok (.iinc 4 1, 3) := by decide +kernel
theorem dX9_sheet_74 : decode cX9_sheet 74 = .ok (.goto (-23), 3) := by decide +kernel
theorem dX9_sheet_77 : decode cX9_sheet 77 = .ok (.iload_n 3, 1) := by decide +kernel
theorem dX9_sheet_78 : decode cX9_sheet 78 = .ok (.ireturn, 1) := by decide +kernel
theorem dX9_drop_0 : decode cX9_drop 0 = .ok (.iload_n 1, 1) := by decide +kernel
theorem dX9_drop_1 : decode cX9_drop 1 = .ok (.invokestatic 247, 3) := by decide +kernel
theorem dX9_drop_4 : decode cX9_drop 4 = .ok (.ifCond .ne 5, 3) := by decide +kernel
theorem dX9_drop_7 : decode cX9_drop 7 = .ok (.iconst (-1), 1) := by decide +kernel
theorem dX9_drop_8 : decode cX9_drop 8 = .ok (.ireturn, 1) := by decide +kernel
theorem dX9_drop_9 : decode cX9_drop 9 = .ok (.aload_n 0, 1) := by decide +kernel
theorem dX9_drop_10 : decode cX9_drop 10 = .ok (.getfield 42, 3) := by decide +kernel
theorem dX9_drop_13 : decode cX9_drop 13 = .ok (.iload_n 1, 1) := by decide +kernel
theorem dX9_drop_14 : decode cX9_drop 14 = .ok (.iaload, 1) := by decide +kernel
theorem dX9_drop_15 : decode cX9_drop 15 = .ok (.ifCond .ge 6, 3) := by decide +kernel
theorem dX9_drop_18 : decode cX9_drop 18 = .ok (.bipush (-11), 2) := by decide +kernel
theorem dX9_drop_20 : decode cX9_drop 20 = .ok (.ireturn, 1) := by decide +kernel
theorem dX9_drop_21 : decode cX9_drop 21 = .ok (.aload_n 0, 1) := by decide +kernel
theorem dX9_drop_22 : decode cX9_drop 22 = .ok (.getfield 42, 3) := by decide +kernel
theorem dX9_drop_25 : decode cX9_drop 25 = .ok (.iload_n 1, 1) := by decide +kernel
theorem dX9_drop_26 : decode cX9_drop 26 = .ok (.iconst (-1), 1) := by decide +kernel
theorem dX9_drop_27 : decode cX9_drop 27 = .ok (.iastore, 1) := by decide +kernel
theorem dX9_drop_28 : decode cX9_drop 28 = .ok (.aload_n 0, 1) := by decide +kernel
theorem dX9_drop_29 : decode cX9_drop 29 = .ok (.getfield 45, 3) := by decide +kernel
theorem dX9_drop_32 : decode cX9_drop 32 = .ok (.iload_n 1, 1) := by decide +kernel
theorem dX9_drop_33 : decode cX9_drop 33 = .ok (.iaload, 1) := by decide +kernel
theorem dX9_drop_34 : decode cX9_drop 34 = .ok (.ireturn, 1) := by decide +kernel
theorem dX9_whyNot_0 : decode cX9_whyNot 0 = .ok (.aload_n 0, 1) := by decide +kernel
theorem dX9_whyNot_1 : decode cX9_whyNot 1 = .ok (.getfield 42, 3) := by decide +kernel
theorem dX9_whyNot_4 : decode cX9_whyNot 4 = .ok (.iload_n 1, 1) := by decide +kernel
theorem dX9_whyNot_5 : decode cX9_whyNot 5 = .ok (.iaload, 1) := by decide +kernel
theorem dX9_whyNot_6 : decode cX9_whyNot 6 = .ok (.ifCond .ge 6, 3) := by decide +kernel
theorem dX9_whyNot_9 : decode cX9_whyNot 9 = .ok (.bipush (-11), 2) := by decide +kernel
theorem dX9_whyNot_11 : decode cX9_whyNot 11 = .ok (.ireturn, 1) := by decide +kernel
theorem dX9_whyNot_12 : decode cX9_whyNot 12 = .ok (.aload_n 0, 1) := by decide +kernel
theorem dX9_whyNot_13 : decode cX9_whyNot 13 = .ok (.getfield 42, 3) := by decide +kernel
theorem dX9_whyNot_16 : decode cX9_whyNot 16 = .ok (.iload_n 1, 1) := by decide +kernel
theorem dX9_whyNot_17 : decode cX9_whyNot 17 = .ok (.iaload, 1) := by decide +kernel
theorem dX9_whyNot_18 : decode cX9_whyNot 18 = .ok (.iload_n 2, 1) := by decide +kernel
theorem dX9_whyNot_19 : decode cX9_whyNot 19 = .ok (.if_icmp .eq 6, 3) := by decide +kernel
theorem dX9_whyNot_22 : decode cX9_whyNot 22 = .ok (.bipush (-12), 2) := by decide +kernel
theorem dX9_whyNot_24 : decode cX9_whyNot 24 = .ok (.ireturn, 1) := by decide +kernel
theorem dX9_whyNot_25 : decode cX9_whyNot 25 = .ok (.iload_n 3, 1) := by decide +kernel
theorem dX9_whyNot_26 : decode cX9_whyNot 26 = .ok (.ifCond .lt 16, 3) := by decide +kernel
theorem dX9_whyNot_29 : decode cX9_whyNot 29 = .ok (.iload 4, 2) := by decide +kernel
theorem dX9_whyNot_31 : decode cX9_whyNot 31 = .ok (.aload_n 0, 1) := by decide +kernel
theorem dX9_whyNot_32 : decode cX9_whyNot 32 = .ok (.getfield 45, 3) := by decide +kernel
theorem dX9_whyNot_35 : decode cX9_whyNot 35 = .ok (.iload_n 1, 1) := by decide +kernel
theorem dX9_whyNot_36 : decode cX9_whyNot 36 = .ok (.iaload, 1) := by decide +kernel
theorem dX9_whyNot_37 : decode cX9_whyNot 37 = .ok (.iload_n 3, 1) := by decide +kernel
theorem dX9_whyNot_38 : decode cX9_whyNot 38 = .ok (.isub, 1) := by decide +kernel
theorem dX9_whyNot_39 : decode cX9_whyNot 39 = .ok (.if_icmp .le 8, 3) := by decide +kernel
theorem dX9_whyNot_42 : decode cX9_whyNot 42 = .ok (.bipush (-13), 2) := by decide +kernel
theorem dX9_whyNot_44 : decode cX9_whyNot 44 = .ok (.goto 4, 3) := by decide +kernel
theorem dX9_whyNot_47 : decode cX9_whyNot 47 = .ok (.iconst 0, 1) := by decide +kernel
theorem dX9_whyNot_48 : decode cX9_whyNot 48 = .ok (.ireturn, 1) := by decide +kernel
theorem dX9_item_0 : decode cX9_item 0 = .ok (.iload_n 1, 1) := by decide +kernel
theorem dX9_item_1 : decode cX9_item 1 = .ok (.invokestatic 247, 3) := by decide +kernel
theorem dX9_item_4 : decode cX9_item 4 = .ok (.ifCond .eq 15, 3) := by decide +kernel
theorem dX9_item_7 : decode cX9_item 7 = .ok (.iload_n 2, 1) := by decide +kernel
theorem dX9_item_8 : decode cX9_item 8 = .ok (.i2l, 1) := by decide +kernel
theorem dX9_item_9 : decode cX9_item 9 = .ok (.lconst 0, 1) := by decide +kernel
theorem dX9_item_10 : decode cX9_item 10 = .ok (.ldc2_w 245, 3) := by decide +kernel
theorem dX9_item_13 : decode cX9_item 13 = .ok (.invokestatic 60, 3) := by decide +kernel
theorem dX9_item_16 : decode cX9_item 16 = .ok (.ifCond .ne 5, 3) := by decide +kernel
theorem dX9_item_19 : decode cX9_item 19 = .ok (.iconst (-1), 1) := by decide +kernel
theorem dX9_item_20 : decode cX9_item 20 = .ok (.ireturn, 1) := by decide +kernel
theorem dX9_item_21 : decode cX9_item 21 = .ok (.aload_n 0, 1) := by decide +kernel
theorem dX9_item_22 : decode cX9_item 22 = .ok (.iload_n 1, 1) := by decide +kernel
theorem dX9_item_23 : decode cX9_item 23 = .ok (.iload_n 2, 1) := by decide +kernel
theorem dX9_item_24 : decode cX9_item 24 = .ok (.iload_n 3, 1) := by decide +kernel
theorem dX9_item_25 : decode cX9_item 25 = .ok (.iconst 1, 1) := by decide +kernel
theorem dX9_item_26 : decode cX9_item 26 = .ok (.invokevirtual 250, 3) := by decide +kernel
theorem dX9_item_29 : decode cX9_item 29 = .ok (.istore 6, 2) := by decide +kernel
theorem dX9_item_31 : decode cX9_item 31 = .ok (.iload 6, 2) := by decide +kernel
theorem dX9_item_33 : decode cX9_item 33 = .ok (.ifCond .ge 6, 3) := by decide +kernel
theorem dX9_item_36 : decode cX9_item 36 = .ok (.iload 6, 2) := by decide +kernel
theorem dX9_item_38 : decode cX9_item 38 = .ok (.ireturn, 1) := by decide +kernel
theorem dX9_item_39 : decode cX9_item 39 = .ok (.aload_n 0, 1) := by decide +kernel
theorem dX9_item_40 : decode cX9_item 40 = .ok (.getfield 48, 3) := by decide +kernel
theorem dX9_item_43 : decode cX9_item 43 = .ok (.bipush 24, 2) := by decide +kernel
theorem dX9_item_45 : decode cX9_item 45 = .ok (.iload_n 1, 1) := by decide +kernel
theorem dX9_item_46 : decode cX9_item 46 = .ok (.imul, 1) := by decide +kernel
theorem dX9_item_47 : decode cX9_item 47 = .ok (.iload_n 3, 1) := by decide +kernel
theorem dX9_item_48 : decode cX9_item 48 = .ok (.iadd, 1) := by decide +kernel
theorem dX9_item_49 : decode cX9_item 49 = .ok (.lload 4, 2) := by decide +kernel
theorem dX9_item_51 : decode cX9_item 51 = .ok (.iload_n 2, 1) := by decide +kernel
theorem dX9_item_52 : decode cX9_item 52 = .ok (.invokestatic 254, 3) := by decide +kernel
theorem dX9_item_55 : decode cX9_item 55 = .ok (.lastore, 1) := by decide +kernel
theorem dX9_item_56 : decode cX9_item 56 = .ok (.iconst 1, 1) := by decide +kernel
theorem dX9_item_57 : decode cX9_item 57 = .ok (.ireturn, 1) := by decide +kernel
theorem dX9_copy_0 : decode cX9_copy 0 = .ok (.iload_n 1, 1) := by decide +kernel
theorem dX9_copy_1 : decode cX9_copy 1 = .ok (.invokestatic 247, 3) := by decide +kernel
theorem dX9_copy_4 : decode cX9_copy 4 = .ok (.ifCond .eq 10, 3) := by decide +kernel
theorem dX9_copy_7 : decode cX9_copy 7 = .ok (.iload_n 3, 1) := by decide +kernel
theorem dX9_copy_8 : decode cX9_copy 8 = .ok (.invokestatic 247, 3) := by decide +kernel
theorem dX9_copy_11 : decode cX9_copy 11 = .ok (.ifCond .ne 5, 3) := by decide +kernel
theorem dX9_copy_14 : decode cX9_copy 14 = .ok (.iconst (-1), 1) := by decide +kernel
theorem dX9_copy_15 : decode cX9_copy 15 = .ok (.ireturn, 1) := by decide +kernel
theorem dX9_copy_16 : decode cX9_copy 16 = .ok (.aload_n 0, 1) := by decide +kernel
theorem dX9_copy_17 : decode cX9_copy 17 = .ok (.getfield 42, 3) := by decide +kernel
theorem dX9_copy_20 : decode cX9_copy 20 = .ok (.iload_n 1, 1) := by decide +kernel
theorem dX9_copy_21 : decode cX9_copy 21 = .ok (.iaload, 1) := by decide +kernel
theorem dX9_copy_22 : decode cX9_copy 22 = .ok (.ifCond .lt 12, 3) := by decide +kernel
theorem dX9_copy_25 : decode cX9_copy 25 = .ok (.aload_n 0, 1) := by decide +kernel
theorem dX9_copy_26 : decode cX9_copy 26 = .ok (.getfield 42, 3) := by decide +kernel
theorem dX9_copy_29 : decode cX9_copy 29 = .ok (.iload_n 3, 1) := by decide +kernel
theorem dX9_copy_30 : decode cX9_copy 30 = .ok (.iaload, 1) := by decide +kernel
theorem dX9_copy_31 : decode cX9_copy 31 = .ok (.ifCond .ge 6, 3) := by decide +kernel
theorem dX9_copy_34 : decode cX9_copy 34 = .ok (.bipush (-11), 2) := by decide +kernel
theorem dX9_copy_36 : decode cX9_copy 36 = .ok (.ireturn, 1) := by decide +kernel
theorem dX9_copy_37 : decode cX9_copy 37 = .ok (.aload_n 0, 1) := by decide +kernel
theorem dX9_copy_38 : decode cX9_copy 38 = .ok (.getfield 42, 3) := by decide +kernel
theorem dX9_copy_41 : decode cX9_copy 41 = .ok (.iload_n 1, 1) := by decide +kernel
theorem dX9_copy_42 : decode cX9_copy 42 = .ok (.iaload, 1) := by decide +kernel
theorem dX9_copy_43 : decode cX9_copy 43 = .ok (.aload_n 0, 1) := by decide +kernel
theorem dX9_copy_44 : decode cX9_copy 44 = .ok (.getfield 42, 3) := by decide +kernel
theorem dX9_copy_47 : decode cX9_copy 47 = .ok (.iload_n 3, 1) := by decide +kernel
theorem dX9_copy_48 : decode cX9_copy 48 = .ok (.iaload, 1) := by decide +kernel
theorem dX9_copy_49 : decode cX9_copy 49 = .ok (.if_icmp .eq 6, 3) := by decide +kernel
theorem dX9_copy_52 : decode cX9_copy 52 = .ok (.bipush (-12), 2) := by decide +kernel
theorem dX9_copy_54 : decode cX9_copy 54 = .ok (.ireturn, 1) := by decide +kernel
theorem dX9_copy_55 : decode cX9_copy 55 = .ok (.iload 5, 2) := by decide +kernel
theorem dX9_copy_57 : decode cX9_copy 57 = .ok (.ifCond .lt 47, 3) := by decide +kernel
theorem dX9_copy_60 : decode cX9_copy 60 = .ok (.iload_n 2, 1) := by decide +kernel
theorem dX9_copy_61 : decode cX9_copy 61 = .ok (.ifCond .lt 43, 3) := by decide +kernel
theorem dX9_copy_64 : decode cX9_copy 64 = .ok (.iload 4, 2) := by decide +kernel
theorem dX9_copy_66 : decode cX9_copy 66 = .ok (.ifCond .lt 38, 3) := by decide +kernel
theorem dX9_copy_69 : decode cX9_copy 69 = .ok (.iload_n 2, 1) := by decide +kernel
theorem dX9_copy_70 : decode cX9_copy 70 = .ok (.i2l, 1) := by decide +kernel
theorem dX9_copy_71 : decode cX9_copy 71 = .ok (.iload 5, 2) := by decide +kernel
theorem dX9_copy_73 : decode cX9_copy 73 = .ok (.i2l, 1) := by decide +kernel
theorem dX9_copy_74 : decode cX9_copy 74 = .ok (.ladd, 1) := by decide +kernel
theorem dX9_copy_75 : decode cX9_copy 75 = .ok (.aload_n 0, 1) := by decide +kernel
theorem dX9_copy_76 : decode cX9_copy 76 = .ok (.getfield 45, 3) := by decide +kernel
theorem dX9_copy_79 : decode cX9_copy 79 = .ok (.iload_n 1, 1) := by decide +kernel
theorem dX9_copy_80 : decode cX9_copy 80 = .ok (.iaload, 1) := by decide +kernel
theorem dX9_copy_81 : decode cX9_copy 81 = .ok (.i2l, 1) := by decide +kernel
theorem dX9_copy_82 : decode cX9_copy 82 = .ok (.lcmp, 1) := by decide +kernel
theorem dX9_copy_83 : decode cX9_copy 83 = .ok (.ifCond .gt 21, 3) := by decide +kernel
theorem dX9_copy_86 : decode cX9_copy 86 = .ok (.iload 4, 2) := by decide +kernel
theorem dX9_copy_88 : decode cX9_copy 88 = .ok (.i2l, 1) := by decide +kernel
theorem dX9_copy_89 : decode cX9_copy 89 = .ok (.iload 5, 2) := by decide +kernel
theorem dX9_copy_91 : decode cX9_copy 91 = .ok (.i2l, 1) := by decide +kernel
theorem dX9_copy_92 : decode cX9_copy 92 = .ok (.ladd, 1) := by decide +kernel
theorem dX9_copy_93 : decode cX9_copy 93 = .ok (.aload_n 0, 1) := by decide +kernel
theorem dX9_copy_94 : decode cX9_copy 94 = .ok (.getfield 45, 3) := by decide +kernel
theorem dX9_copy_97 : decode cX9_copy 97 = .ok (.iload_n 3, 1) := by decide +kernel
theorem dX9_copy_98 : decode cX9_copy 98 = .ok (.iaload, 1) := by decide +kernel
theorem dX9_copy_99 : decode cX9_copy 99 = .ok (.i2l, 1) := by decide +kernel
theorem dX9_copy_100 : decode cX9_copy 100 = .ok (.lcmp, 1) := by decide +kernel
theorem dX9_copy_101 : decode cX9_copy 101 = .ok (.ifCond .le 6, 3) := by decide +kernel
theorem dX9_copy_104 : decode cX9_copy 104 = .ok (.bipush (-13), 2) := by decide +kernel
theorem dX9_copy_106 : decode cX9_copy 106 = .ok (.ireturn, 1) := by decide +kernel
theorem dX9_copy_107 : decode cX9_copy 107 = .ok (.iconst 0, 1) := by decide +kernel
theorem dX9_copy_108 : decode cX9_copy 108 = .ok (.istore 6, 2) := by decide +kernel
theorem dX9_copy_110 : decode cX9_copy 110 = .ok (.iload 6, 2) := by decide +kernel
theorem dX9_copy_112 : decode cX9_copy 112 = .ok (.iload 5, 2) := by decide +kernel
theorem dX9_copy_114 : decode cX9_copy 114 = .ok (.if_icmp .ge 30, 3) := by decide +kernel
theorem dX9_copy_117 : decode cX9_copy 117 = .ok (.aload_n 0, 1) := by decide +kernel
theorem dX9_copy_118 : decode cX9_copy 118 = .ok (.getfield 52, 3) := by decide +kernel
theorem dX9_copy_121 : decode cX9_copy 121 = .ok (.iload 6, 2) := by decide +kernel
theorem dX9_copy_123 : decode cX9_copy 123 = .ok (.aload_n 0, 1) := by decide +kernel
theorem dX9_copy_124 : decode cX9_copy 124 = .ok (.getfield 48, 3) := by decide +kernel
theorem dX9_copy_127 : decode cX9_copy 127 = .ok (.bipush 24, 2) := by decide +kernel
theorem dX9_copy_129 : decode cX9_copy 129 = .ok (.iload_n 1, 1) := by decide +kernel
theorem dX9_copy_130 : decode cX9_copy 130 = .ok (.imul, 1) := by decide +kernel
theorem dX9_copy_131 : decode cX9_copy 131 = .ok (.iload_n 2, 1) := by decide +kernel
theorem dX9_copy_132 : decode cX9_copy 132 = .ok (.iadd, 1) := by decide +kernel
theorem dX9_copy_133 : decode cX9_copy 133 = .ok (.iload 6, 2) := by decide +kernel
theorem dX9_copy_135 : decode cX9_copy 135 = .ok (.iadd, 1) := by decide +kernel
theorem dX9_copy_136 : decode cX9_copy 136 = .ok (.laload, 1) := by decide +kernel
theorem dX9_copy_137 : decode cX9_copy 137 = .ok (.lastore, 1) := by decide +kernel
theorem dX9_copy_138 : decode cX9_copy 138 = .ok (.iinc 6 1, 3) := by decide +kernel
theorem dX9_copy_141 : decode cX9_copy 141 = .ok (.goto (-31), 3) := by decide +kernel
theorem dX9_copy_144 : decode cX9_copy 144 = .ok (.iconst 0, 1) := by decide +kernel
theorem dX9_copy_145 : decode cX9_copy 145 = .ok (.istore 6, 2) := by decide +kernel
theorem dX9_copy_147 : decode cX9_copy 147 = .ok (.iload 6, 2) := by decide +kernel
theorem dX9_copy_149 : decode cX9_copy 149 = .ok (.iload 5, 2) := by decide +kernel
theorem dX9_copy_151 : decode cX9_copy 151 = .ok (.if_icmp .ge 31, 3) := by decide +kernel
theorem dX9_copy_154 : decode cX9_copy 154 = .ok (.aload_n 0, 1) := by decide +kernel
theorem dX9_copy_155 : decode cX9_copy 155 = .ok (.getfield 48, 3) := by decide +kernel
theorem dX9_copy_158 : decode cX9_copy 158 = .ok (.bipush 24, 2) := by decide +kernel
theorem dX9_copy_160 : decode cX9_copy 160 = .ok (.iload_n 3, 1) := by decide +kernel
theorem dX9_copy_161 : decode cX9_copy 161 = .ok (.imul, 1) := by decide +kernel
theorem dX9_copy_162 : decode cX9_copy 162 = .ok (.iload 4, 2) := by decide +kernel
theorem dX9_copy_164 : decode cX9_copy 164 = .ok (.iadd, 1) := by decide +kernel
theorem dX9_copy_165 : decode cX9_copy 165 = .ok (.iload 6, 2) := by decide +kernel
theorem dX9_copy_167 : decode cX9_copy 167 = .ok (.iadd, 1) := by decide +kernel
theorem dX9_copy_168 : decode cX9_copy 168 = .ok (.aload_n 0, 1) := by decide +kernel
theorem dX9_copy_169 : decode cX9_copy 169 = .ok (.getfield 52, 3) := by decide +kernel
theorem dX9_copy_172 : decode cX9_copy 172 = .ok (.iload 6, 2) := by decide +kernel
theorem dX9_copy_174 : decode cX9_copy 174 = .ok (.laload, 1) := by decide +kernel
theorem dX9_copy_175 : decode cX9_copy 175 = .ok (.lastore, 1) := by decide +kernel
theorem dX9_copy_176 : decode cX9_copy 176 = .ok (.iinc 6 1, 3) := by decide +kernel
theorem dX9_copy_179 : decode cX9_copy 179 = .ok (.goto (-32), 3) := by decide +kernel
theorem dX9_copy_182 : decode cX9_copy 182 = .ok (.iload 5, 2) := by decide +kernel
theorem dX9_copy_184 : decode cX9_copy 184 = .ok (.ireturn, 1) := by decide +kernel
theorem dX9_got_0 : decode cX9_got 0 = .ok (.iload_n 1, 1) := by decide +kernel
theorem dX9_got_1 : decode cX9_got 1 = .ok (.invokestatic 98, 3) := by decide +kernel
theorem dX9_got_4 : decode cX9_got 4 = .ok (.ifCond .eq 35, 3) := by decide +kernel
theorem dX9_got_7 : decode cX9_got 7 = .ok (.iload_n 2, 1) := by decide +kernel
theorem dX9_got_8 : decode cX9_got 8 = .ok (.invokestatic 247, 3) := by decide +kernel
theorem dX9_got_11 : decode cX9_got 11 = .ok (.ifCond .eq 28, 3) := by decide +kernel
theorem dX9_got_14 : decode cX9_got 14 = .ok (.iload_n 3, 1) := by decide +kernel
theorem dX9_got_15 : decode cX9_got 15 = .ok (.i2l, 1) := by decide +kernel
theorem dX9_got_16 : decode cX9_got 16 = .ok (.lconst 0, 1) := by decide +kernel
theorem dX9_got_17 : decode cX9_got 17 = .ok (.ldc2_w 245, 3) := by decide +kernel
theorem dX9_got_20 : decode cX9_got 20 = .ok (.invokestatic 60, 3) := by decide +kernel
theorem dX9_got_23 : decode cX9_got 23 = .ok (.ifCond .eq 16, 3) := by decide +kernel
theorem dX9_got_26 : decode cX9_got 26 = .ok (.iload 5, 2) := by decide +kernel
theorem dX9_got_28 : decode cX9_got 28 = .ok (.i2l, 1) := by decide +kernel
theorem dX9_got_29 : decode cX9_got 29 = .ok (.lconst 1, 1) := by decide +kernel
theorem dX9_got_30 : decode cX9_got 30 = .ok (.ldc2_w 258, 3) := by decide +kernel
theorem dX9_got_33 : decode cX9_got 33 = .ok (.invokestatic 60, 3) := by decide +kernel
theorem dX9_got_36 : decode cX9_got 36 = .ok (.ifCond .ne 5, 3) := by decide +kernel
theorem dX9_got_39 : decode cX9_got 39 = .ok (.iconst (-1), 1) := by decide +kernel
theorem dX9_got_40 : decode cX9_got 40 = .ok (.ireturn, 1) := by decide +kernel
theorem dX9_got_41 : decode cX9_got 41 = .ok (.aload_n 0, 1) := by decide +kernel
theorem dX9_got_42 : decode cX9_got 42 = .ok (.iload_n 2, 1) := by decide +kernel
theorem dX9_got_43 : decode cX9_got 43 = .ok (.iload_n 3, 1) := by decide +kernel
theorem dX9_got_44 : decode cX9_got 44 = .ok (.iload 4, 2) := by decide +kernel
theorem dX9_got_46 : decode cX9_got 46 = .ok (.iload 5, 2) := by decide +kernel
theorem dX9_got_48 : decode cX9_got 48 = .ok (.invokevirtual 250, 3) := by decide +kernel
theorem dX9_got_51 : decode cX9_got 51 = .ok (.istore 6, 2) := by decide +kernel
theorem dX9_got_53 : decode cX9_got 53 = .ok (.iload 6, 2) := by decide +kernel
theorem dX9_got_55 : decode cX9_got 55 = .ok (.ifCond .ge 6, 3) := by decide +kernel
theorem dX9_got_58 : decode cX9_got 58 = .ok (.iload 6, 2) := by decide +kernel
theorem dX9_got_60 : decode cX9_got 60 = .ok (.ireturn, 1) := by decide +kernel
theorem dX9_got_61 : decode cX9_got 61 = .ok (.iconst 0, 1) := by decide +kernel
theorem dX9_got_62 : decode cX9_got 62 = .ok (.istore 7, 2) := by decide +kernel
theorem dX9_got_64 : decode cX9_got 64 = .ok (.iload 7, 2) := by decide +kernel
theorem dX9_got_66 : decode cX9_got 66 = .ok (.iload 5, 2) := by decide +kernel
theorem dX9_got_68 : decode cX9_got 68 = .ok (.if_icmp .ge 34, 3) := by decide +kernel
theorem dX9_got_71 : decode cX9_got 71 = .ok (.aload_n 0, 1) := by decide +kernel
theorem dX9_got_72 : decode cX9_got 72 = .ok (.aload_n 0, 1) := by decide +kernel
theorem dX9_got_73 : decode cX9_got 73 = .ok (.getfield 48, 3) := by decide +kernel
theorem dX9_got_76 : decode cX9_got 76 = .ok (.bipush 24, 2) := by decide +kernel
theorem dX9_got_78 : decode cX9_got 78 = .ok (.iload_n 2, 1) := by decide +kernel
theorem dX9_got_79 : decode cX9_got 79 = .ok (.imul, 1) := by decide +kernel
theorem dX9_got_80 : decode cX9_got 80 = .ok (.iload 4, 2) := by decide +kernel
theorem dX9_got_82 : decode cX9_got 82 = .ok (.iadd, 1) := by decide +kernel
theorem dX9_got_83 : decode cX9_got 83 = .ok (.iload 7, 2) := by decide +kernel
theorem dX9_got_85 : decode cX9_got 85 = .ok (.iadd, 1) := by decide +kernel
theorem dX9_got_86 : decode cX9_got 86 = .ok (.laload, 1) := by decide +kernel
theorem dX9_got_87 : decode cX9_got 87 = .ok (.invokevirtual 183, 3) := by decide +kernel
theorem dX9_got_90 : decode cX9_got 90 = .ok (.ifCond .ne 6, 3) := by decide +kernel
theorem dX9_got_93 : decode cX9_got 93 = .ok (.bipush (-2), 2) := by decide +kernel
theorem dX9_got_95 : decode cX9_got 95 = .ok (.ireturn, 1) := by decide +kernel
theorem dX9_got_96 : decode cX9_got 96 = .ok (.iinc 7 1, 3) := by decide +kernel
theorem dX9_got_99 : decode cX9_got 99 = .ok (.goto (-35), 3) := by decide +kernel
theorem dX9_got_102 : decode cX9_got 102 = .ok (.iconst 0, 1) := by decide +kernel
theorem dX9_got_103 : decode cX9_got 103 = .ok (.istore 7, 2) := by decide +kernel
theorem dX9_got_105 : decode cX9_got 105 = .ok (.iload 7, 2) := by decide +kernel
theorem dX9_got_107 : decode cX9_got 107 = .ok (.aload_n 0, 1) := by decide +kernel
theorem dX9_got_108 : decode cX9_got 108 = .ok (.getfield 7, 3) := by decide +kernel
theorem dX9_got_111 : decode cX9_got 111 = .ok (.iconst 0, 1) := by decide +kernel
theorem dX9_got_112 : decode cX9_got 112 = .ok (.iaload, 1) := by decide +kernel
theorem dX9_got_113 : decode cX9_got 113 = .ok (.if_icmp .ge 23, 3) := by decide +kernel
theorem dX9_got_116 : decode cX9_got 116 = .ok (.aload_n 0, 1) := by decide +kernel
theorem dX9_got_117 : decode cX9_got 117 = .ok (.getfield 55, 3) := by decide +kernel
theorem dX9_got_120 : decode cX9_got 120 = .ok (.iload 7, 2) := by decide +kernel
theorem dX9_got_122 : decode cX9_got 122 = .ok (.aload_n 0, 1) := by decide +kernel
theorem dX9_got_123 : decode cX9_got 123 = .ok (.iload_n 1, 1) := by decide +kernel
theorem dX9_got_124 : decode cX9_got 124 = .ok (.iload 7, 2) := by decide +kernel
theorem dX9_got_126 : decode cX9_got 126 = .ok (.invokevirtual 117, 3) := by decide +kernel
theorem dX9_got_129 : decode cX9_got 129 = .ok (.bastore, 1) := by decide +kernel
theorem dX9_got_130 : decode cX9_got 130 = .ok (.iinc 7 1, 3) := by decide +kernel
theorem dX9_got_133 : decode cX9_got 133 = .ok (.goto (-28), 3) := by decide +kernel
theorem dX9_got_136 : decode cX9_got 136 = .ok (.iconst 0, 1) := by decide +kernel
theorem dX9_got_137 : decode cX9_got 137 = .ok (.istore 7, 2) := by decide +kernel
theorem dX9_got_139 : decode cX9_got 139 = .ok (.iload 7, 2) := by decide +kernel
theorem dX9_got_141 : decode cX9_got 141 = .ok (.iload 5, 2) := by decide +kernel
theorem dX9_got_143 : decode cX9_got 143 = .ok (.if_icmp .ge 71, 3) := by decide +kernel
theorem dX9_got_146 : decode cX9_got 146 = .ok (.aload_n 0, 1) := by decide +kernel
theorem dX9_got_147 : decode cX9_got 147 = .ok (.getfield 48, 3) := by decide +kernel
theorem dX9_got_150 : decode cX9_got 150 = .ok (.bipush 24, 2) := by decide +kernel
theorem dX9_got_152 : decode cX9_got 152 = .ok (.iload_n 2, 1) := by decide +kernel
theorem dX9_got_153 : decode cX9_got 153 = .ok (.imul, 1) := by decide +kernel
theorem dX9_got_154 : decode cX9_got 154 = .ok (.iload 4, 2) := by decide +kernel
theorem dX9_got_156 : decode cX9_got 156 = .ok (.iadd, 1) := by decide +kernel
theorem dX9_got_157 : decode cX9_got 157 = .ok (.iload 7, 2) := by decide +kernel
theorem dX9_got_159 : decode cX9_got 159 = .ok (.iadd, 1) := by decide +kernel
theorem dX9_got_160 : decode cX9_got 160 = .ok (.laload, 1) := by decide +kernel
theorem dX9_got_161 : decode cX9_got 161 = .ok (.l2i, 1) := by decide +kernel
theorem dX9_got_162 : decode cX9_got 162 = .ok (.istore 8, 2) := by decide +kernel
theorem dX9_got_164 : decode cX9_got 164 = .ok (.aload_n 0, 1) := by decide +kernel
theorem dX9_got_165 : decode cX9_got 165 = .ok (.getfield 55, 3) := by decide +kernel
theorem dX9_got_168 : decode cX9_got 168 = .ok (.aload_n 0, 1) := by decide +kernel
theorem dX9_got_169 : decode cX9_got 169 = .ok (.iload 8, 2) := by decide +kernel
theorem dX9_got_171 : decode cX9_got 171 = .ok (.invokevirtual 120, 3) := by decide +kernel
theorem dX9_got_174 : decode cX9_got 174 = .ok (.aload_n 0, 1) := by decide +kernel
theorem dX9_got_175 : decode cX9_got 175 = .ok (.getfield 55, 3) := by decide +kernel
theorem dX9_got_178 : decode cX9_got 178 = .ok (.aload_n 0, 1) := by decide +kernel
theorem dX9_got_179 : decode cX9_got 179 = .ok (.iload 8, 2) := by decide +kernel
theorem dX9_got_181 : decode cX9_got 181 = .ok (.invokevirtual 120, 3) := by decide +kernel
theorem dX9_got_184 : decode cX9_got 184 = .ok (.baload, 1) := by decide +kernel
theorem dX9_got_185 : decode cX9_got 185 = .ok (.ifCond .ne 17, 3) := by decide +kernel
theorem dX9_got_188 : decode cX9_got 188 = .ok (.aload_n 0, 1) := by decide +kernel
theorem dX9_got_189 : decode cX9_got 189 = .ok (.getfield 55, 3) := by decide +kernel
theorem dX9_got_192 : decode cX9_got 192 = .ok (.aload_n 0, 1) := by decide +kernel
theorem dX9_got_193 : decode cX9_got 193 = .ok (.iload 8, 2) := by decide +kernel
theorem dX9_got_195 : decode cX9_got 195 = .ok (.invokevirtual 114, 3) := by decide +kernel
theorem dX9_got_198 : decode cX9_got 198 = .ok (.baload, 1) := by decide +kernel
theorem dX9_got_199 : decode cX9_got 199 = .ok (.ifCond .eq 7, 3) := by decide +kernel
theorem dX9_got_202 : decode cX9_got 202 = .ok (.iconst 1, 1) := by decide +kernel
theorem dX9_got_203 : decode cX9_got 203 = .ok (.goto 4, 3) := by decide +kernel
theorem dX9_got_206 : decode cX9_got 206 = .ok (.iconst 0, 1) := by decide +kernel
theorem dX9_got_207 : decode cX9_got 207 = .ok (.bastore, 1) := by decide +kernel
theorem dX9_got_208 : decode cX9_got 208 = .ok (.iinc 7 1, 3) := by decide +kernel
theorem dX9_got_211 : decode cX9_got 211 = .ok (.goto (-72), 3) := by decide +kernel
theorem dX9_got_214 : decode cX9_got 214 = .ok (.aload_n 0, 1) := by decide +kernel
theorem dX9_got_215 : decode cX9_got 215 = .ok (.iconst 1, 1) := by decide +kernel
theorem dX9_got_216 : decode cX9_got 216 = .ok (.invokevirtual 140, 3) := by decide +kernel
theorem dX9_got_219 : decode cX9_got 219 = .ok (.istore 7, 2) := by decide +kernel
theorem dX9_got_221 : decode cX9_got 221 = .ok (.iload 7, 2) := by decide +kernel
theorem dX9_got_223 : decode cX9_got 223 = .ok (.ifCond .ge 8, 3) := by decide +kernel
theorem dX9_got_226 : decode cX9_got 226 = .ok (.bipush (-4), 2) := by decide +kernel
theorem dX9_got_228 : decode cX9_got 228 = .ok (.goto 18, 3) := by decide +kernel
theorem dX9_got_231 : decode cX9_got 231 = .ok (.aload_n 0, 1) := by decide +kernel
theorem dX9_got_232 : decode cX9_got 232 = .ok (.getfield 55, 3) := by decide +kernel
theorem dX9_got_235 : decode cX9_got 235 = .ok (.iload 7, 2) := by decide +kernel
theorem dX9_got_237 : decode cX9_got 237 = .ok (.baload, 1) := by decide +kernel
theorem dX9_got_238 : decode cX9_got 238 = .ok (.ifCond .eq 7, 3) := by decide +kernel
theorem dX9_got_241 : decode cX9_got 241 = .ok (.iconst 1, 1) := by decide +kernel
theorem dX9_got_242 : decode cX9_got 242 = .ok (.goto 4, 3) := by decide +kernel
theorem dX9_got_245 : decode cX9_got 245 = .ok (.iconst 0, 1) := by decide +kernel
theorem dX9_got_246 : decode cX9_got 246 = .ok (.ireturn, 1) := by decide +kernel
theorem dX9_film_0 : decode cX9_film 0 = .ok (.iload_n 1, 1) := by decide +kernel
theorem dX9_film_1 : decode cX9_film 1 = .ok (.i2l, 1) := by decide +kernel
theorem dX9_film_2 : decode cX9_film 2 = .ok (.ldc2_w 260, 3) := by decide +kernel
theorem dX9_film_5 : decode cX9_film 5 = .ok (.ldc2_w 175, 3) := by decide +kernel
theorem dX9_film_8 : decode cX9_film 8 = .ok (.invokestatic 60, 3) := by decide +kernel
theorem dX9_film_11 : decode cX9_film 11 = .ok (.ifCond .eq 22, 3) := by decide +kernel
theorem dX9_film_14 : decode cX9_film 14 = .ok (.iload_n 2, 1) := by decide +kernel
theorem dX9_film_15 : decode cX9_film 15 = .ok (.invokestatic 247, 3) := by decide +kernel
theorem dX9_film_18 : decode cX9_film 18 = .ok (.ifCond .eq 15, 3) := by decide +kernel
theorem dX9_film_21 : decode cX9_film 21 = .ok (.iload_n 3, 1) := by decide +kernel
theorem dX9_film_22 : decode cX9_film 22 = .ok (.i2l, 1) := by decide +kernel
theorem dX9_film_23 : decode cX9_film 23 = .ok (.lconst 0, 1) := by decide +kernel
theorem dX9_film_24 : decode cX9_film 24 = .ok (.ldc2_w 245, 3) := by decide +kernel
theorem dX9_film_27 : decode cX9_film 27 = .ok (.invokestatic 60, 3) := by decide +kernel
theorem dX9_film_30 : decode cX9_film 30 = .ok (.ifCond .ne 5, 3) := by decide +kernel
theorem dX9_film_33 : decode cX9_film 33 = .ok (.iconst (-1), 1) := by decide +kernel
theorem dX9_film_34 : decode cX9_film 34 = .ok (.ireturn, 1) := by decide +kernel
theorem dX9_film_35 : decode cX9_film 35 = .ok (.aload_n 0, 1) := by decide +kernel
theorem dX9_film_36 : decode cX9_film 36 = .ok (.iload_n 2, 1) := by decide +kernel
theorem dX9_film_37 : decode cX9_film 37 = .ok (.iload_n 3, 1) := by decide +kernel
theorem dX9_film_38 : decode cX9_film 38 = .ok (.iload 4, 2) := by decide +kernel
theorem dX9_film_40 : decode cX9_film 40 = .ok (.iconst 5, 1) := by decide +kernel
theorem dX9_film_41 : decode cX9_film 41 = .ok (.invokevirtual 250, 3) := by decide +kernel
theorem dX9_film_44 : decode cX9_film 44 = .ok (.istore 5, 2) := by decide +kernel
theorem dX9_film_46 : decode cX9_film 46 = .ok (.iload 5, 2) := by decide +kernel
theorem dX9_film_48 : decode cX9_film 48 = .ok (.ifCond .ge 6, 3) := by decide +kernel
theorem dX9_film_51 : decode cX9_film 51 = .ok (.iload 5, 2) := by decide +kernel
theorem dX9_film_53 : decode cX9_film 53 = .ok (.ireturn, 1) := by decide +kernel
theorem dX9_film_54 : decode cX9_film 54 = .ok (.bipush 24, 2) := by decide +kernel
theorem dX9_film_56 : decode cX9_film 56 = .ok (.iload_n 2, 1) := by decide +kernel
theorem dX9_film_57 : decode cX9_film 57 = .ok (.imul, 1) := by decide +kernel
theorem dX9_film_58 : decode cX9_film 58 = .ok (.iload 4, 2) := by decide +kernel
theorem dX9_film_60 : decode cX9_film 60 = .ok (.iadd, 1) := by decide +kernel
theorem dX9_film_61 : decode cX9_film 61 = .ok (.istore 6, 2) := by decide +kernel
theorem dX9_film_63 : decode cX9_film 63 = .ok (.iload_n 1, 1) := by decide +kernel
theorem dX9_film_64 : decode cX9_film 64 = .ok (.istore 7, 2) := by decide +kernel
theorem dX9_film_66 : decode cX9_film 66 = .ok (.iload 7, 2) := by decide +kernel
theorem dX9_film_68 : decode cX9_film 68 = .ok (.ifCond .le 33, 3) := by decide +kernel
theorem dX9_film_71 : decode cX9_film 71 = .ok (.aload_n 0, 1) := by decide +kernel
theorem dX9_film_72 : decode cX9_film 72 = .ok (.getfield 48, 3) := by decide +kernel
theorem dX9_film_75 : decode cX9_film 75 = .ok (.iload 6, 2) := by decide +kernel
theorem dX9_film_77 : decode cX9_film 77 = .ok (.aload_n 0, 1) := by decide +kernel
theorem dX9_film_78 : decode cX9_film 78 = .ok (.iload 7, 2) := by decide +kernel
theorem dX9_film_80 : decode cX9_film 80 = .ok (.invokevirtual 140, 3) := by decide +kernel
theorem dX9_film_83 : decode cX9_film 83 = .ok (.i2l, 1) := by decide +kernel
theorem dX9_film_84 : decode cX9_film 84 = .ok (.iload_n 3, 1) := by decide +kernel
theorem dX9_film_85 : decode cX9_film 85 = .ok (.invokestatic 254, 3) := by decide +kernel
theorem dX9_film_88 : decode cX9_film 88 = .ok (.lastore, 1) := by decide +kernel
theorem dX9_film_89 : decode cX9_film 89 = .ok (.iinc 6 1, 3) := by decide +kernel
theorem dX9_film_92 : decode cX9_film 92 = .ok (.iload 7, 2) := by decide +kernel
theorem dX9_film_94 : decode cX9_film 94 = .ok (.iconst 2, 1) := by decide +kernel
theorem dX9_film_95 : decode cX9_film 95 = .ok (.idiv, 1) := by decide +kernel
theorem dX9_film_96 : decode cX9_film 96 = .ok (.istore 7, 2) := by decide +kernel
theorem dX9_film_98 : decode cX9_film 98 = .ok (.goto (-32), 3) := by decide +kernel
theorem dX9_film_101 : decode cX9_film 101 = .ok (.iconst 5, 1) := by decide +kernel
theorem dX9_film_102 : decode cX9_film 102 = .ok (.ireturn, 1) := by decide +kernel
theorem dJ6_numberOfTrailingZeros_0f7a4_0 : decode cJ6_numberOfTrailingZeros_0f7a4 0 = .ok (.iload_n 0, 1) := by decide +kernel
theorem dJ6_numberOfTrailingZeros_0f7a4_1 : decode cJ6_numberOfTrailingZeros_0f7a4 1 = .ok (.iconst (-1), 1) := by decide +kernel
theorem dJ6_numberOfTrailingZeros_0f7a4_2 : decode cJ6_numberOfTrailingZeros_0f7a4 2 = .ok (.ixor, 1) := by decide +kernel
theorem dJ6_numberOfTrailingZeros_0f7a4_3 : decode cJ6_numberOfTrailingZeros_0f7a4 3 = .ok (.iload_n 0, 1) := by decide +kernel
theorem dJ6_numberOfTrailingZeros_0f7a4_4 : decode cJ6_numberOfTrailingZeros_0f7a4 4 = .ok (.iconst 1, 1) := by decide +kernel
theorem dJ6_numberOfTrailingZeros_0f7a4_5 : decode cJ6_numberOfTrailingZeros_0f7a4 5 = .ok (.isub, 1) := by decide +kernel
theorem dJ6_numberOfTrailingZeros_0f7a4_6 : decode cJ6_numberOfTrailingZeros_0f7a4 6 = .ok (.iand, 1) := by decide +kernel
theorem dJ6_numberOfTrailingZeros_0f7a4_7 : decode cJ6_numberOfTrailingZeros_0f7a4 7 = .ok (.istore_n 0, 1) := by decide +kernel
theorem dJ6_numberOfTrailingZeros_0f7a4_8 : decode cJ6_numberOfTrailingZeros_0f7a4 8 = .ok (.iload_n 0, 1) := by decide +kernel
theorem dJ6_numberOfTrailingZeros_0f7a4_9 : decode cJ6_numberOfTrailingZeros_0f7a4 9 = .ok (.ifCond .gt 8, 3) := by decide +kernel
theorem dJ6_numberOfTrailingZeros_0f7a4_12 : decode cJ6_numberOfTrailingZeros_0f7a4 12 = .ok (.iload_n 0, 1) := by decide +kernel
theorem dJ6_numberOfTrailingZeros_0f7a4_13 : decode cJ6_numberOfTrailingZeros_0f7a4 13 = .ok (.bipush 32, 2) := by decide +kernel
theorem dJ6_numberOfTrailingZeros_0f7a4_15 : decode cJ6_numberOfTrailingZeros_0f7a4 15 = .ok (.iand, 1) := by decide +kernel
theorem dJ6_numberOfTrailingZeros_0f7a4_16 : decode cJ6_numberOfTrailingZeros_0f7a4 16 = .ok (.ireturn, 1) := by decide +kernel
theorem dJ6_numberOfTrailingZeros_0f7a4_17 : decode cJ6_numberOfTrailingZeros_0f7a4 17 = .ok (.iconst 1, 1) := by decide +kernel
theorem dJ6_numberOfTrailingZeros_0f7a4_18 : decode cJ6_numberOfTrailingZeros_0f7a4 18 = .ok (.istore_n 1, 1) := by decide +kernel
theorem dJ6_numberOfTrailingZeros_0f7a4_19 : decode cJ6_numberOfTrailingZeros_0f7a4 19 = .ok (.iload_n 0, 1) := by decide +kernel
theorem dJ6_numberOfTrailingZeros_0f7a4_20 : decode cJ6_numberOfTrailingZeros_0f7a4 20 = .ok (.ldc_w 264, 3) := by decide +kernel
theorem dJ6_numberOfTrailingZeros_0f7a4_23 : decode cJ6_numberOfTrailingZeros_0f7a4 23 = .ok (.if_icmp .le 11, 3) := by decide +kernel
theorem dJ6_numberOfTrailingZeros_0f7a4_26 : decode cJ6_numberOfTrailingZeros_0f7a4 26 = .ok (.iinc 1 16, 3) := by decide +kernel
theorem dJ6_numberOfTrailingZeros_0f7a4_29 : decode cJ6_numberOfTrailingZeros_0f7a4 29 = .ok (.iload_n 0, 1) := by decide +kernel
theorem dJ6_numberOfTrailingZeros_0f7a4_30 : decode cJ6_numberOfTrailingZeros_0f7a4 30 = .ok (.bipush 16, 2) := by decide +kernel
theorem dJ6_numberOfTrailingZeros_0f7a4_32 : decode cJ6_numberOfTrailingZeros_0f7a4 32 = .ok (.iushr, 1) := by decide +kernel
theorem dJ6_numberOfTrailingZeros_0f7a4_33 : decode cJ6_numberOfTrailingZeros_0f7a4 33 = .ok (.istore_n 0, 1) := by decide +kernel
theorem dJ6_numberOfTrailingZeros_0f7a4_34 : decode cJ6_numberOfTrailingZeros_0f7a4 34 = .ok (.iload_n 0, 1) := by decide +kernel
theorem dJ6_numberOfTrailingZeros_0f7a4_35 : decode cJ6_numberOfTrailingZeros_0f7a4 35 = .ok (.sipush 256, 3) := by decide +kernel
theorem dJ6_numberOfTrailingZeros_0f7a4_38 : decode cJ6_numberOfTrailingZeros_0f7a4 38 = .ok (.if_icmp .le 11, 3) := by decide +kernel
theorem dJ6_numberOfTrailingZeros_0f7a4_41 : decode cJ6_numberOfTrailingZeros_0f7a4 41 = .ok (.iinc 1 8, 3) := by decide +kernel
theorem dJ6_numberOfTrailingZeros_0f7a4_44 : decode cJ6_numberOfTrailingZeros_0f7a4 44 = .ok (.iload_n 0, 1) := by decide +kernel
theorem dJ6_numberOfTrailingZeros_0f7a4_45 : decode cJ6_numberOfTrailingZeros_0f7a4 45 = .ok (.bipush 8, 2) := by decide +kernel
theorem dJ6_numberOfTrailingZeros_0f7a4_47 : decode cJ6_numberOfTrailingZeros_0f7a4 47 = .ok (.iushr, 1) := by decide +kernel
theorem dJ6_numberOfTrailingZeros_0f7a4_48 : decode cJ6_numberOfTrailingZeros_0f7a4 48 = .ok (.istore_n 0, 1) := by decide +kernel
theorem dJ6_numberOfTrailingZeros_0f7a4_49 : decode cJ6_numberOfTrailingZeros_0f7a4 49 = .ok (.iload_n 0, 1) := by decide +kernel
theorem dJ6_numberOfTrailingZeros_0f7a4_50 : decode cJ6_numberOfTrailingZeros_0f7a4 50 = .ok (.bipush 16, 2) := by decide +kernel
theorem dJ6_numberOfTrailingZeros_0f7a4_52 : decode cJ6_numberOfTrailingZeros_0f7a4 52 = .ok (.if_icmp .le 10, 3) := by decide +kernel
theorem dJ6_numberOfTrailingZeros_0f7a4_55 : decode cJ6_numberOfTrailingZeros_0f7a4 55 = .ok (.iinc 1 4, 3) := by decide +kernel
theorem dJ6_numberOfTrailingZeros_0f7a4_58 : decode cJ6_numberOfTrailingZeros_0f7a4 58 = .ok (.iload_n 0, 1) := by decide +kernel
theorem dJ6_numberOfTrailingZeros_0f7a4_59 : decode cJ6_numberOfTrailingZeros_0f7a4 59 = .ok (.iconst 4, 1) := by decide +kernel
theorem dJ6_numberOfTrailingZeros_0f7a4_60 : decode cJ6_numberOfTrailingZeros_0f7a4 60 = .ok (.iushr, 1) := by decide +kernel
theorem dJ6_numberOfTrailingZeros_0f7a4_61 : decode cJ6_numberOfTrailingZeros_0f7a4 61 = .ok (.istore_n 0, 1) := by decide +kernel
theorem dJ6_numberOfTrailingZeros_0f7a4_62 : decode cJ6_numberOfTrailingZeros_0f7a4 62 = .ok (.iload_n 0, 1) := by decide +kernel
theorem dJ6_numberOfTrailingZeros_0f7a4_63 : decode cJ6_numberOfTrailingZeros_0f7a4 63 = .ok (.iconst 4, 1) := by decide +kernel
theorem dJ6_numberOfTrailingZeros_0f7a4_64 : decode cJ6_numberOfTrailingZeros_0f7a4 64 = .ok (.if_icmp .le 10, 3) := by decide +kernel
theorem dJ6_numberOfTrailingZeros_0f7a4_67 : decode cJ6_numberOfTrailingZeros_0f7a4 67 = .ok (.iinc 1 2, 3) := by decide +kernel
theorem dJ6_numberOfTrailingZeros_0f7a4_70 : decode cJ6_numberOfTrailingZeros_0f7a4 70 = .ok (.iload_n 0, 1) := by decide +kernel
theorem dJ6_numberOfTrailingZeros_0f7a4_71 : decode cJ6_numberOfTrailingZeros_0f7a4 71 = .ok (.iconst 2, 1) := by decide +kernel
theorem dJ6_numberOfTrailingZeros_0f7a4_72 : decode cJ6_numberOfTrailingZeros_0f7a4 72 = .ok (.iushr, 1) := by decide +kernel
theorem dJ6_numberOfTrailingZeros_0f7a4_73 : decode cJ6_numberOfTrailingZeros_0f7a4 73 = .ok (.istore_n 0, 1) := by decide +kernel
theorem dJ6_numberOfTrailingZeros_0f7a4_74 : decode cJ6_numberOfTrailingZeros_0f7a4 74 = .ok (.iload_n 1, 1) := by decide +kernel
theorem dJ6_numberOfTrailingZeros_0f7a4_75 : decode cJ6_numberOfTrailingZeros_0f7a4 75 = .ok (.iload_n 0, 1) := by decide +kernel
theorem dJ6_numberOfTrailingZeros_0f7a4_76 : decode cJ6_numberOfTrailingZeros_0f7a4 76 = .ok (.iconst 1, 1) := by decide +kernel
theorem dJ6_numberOfTrailingZeros_0f7a4_77 : decode cJ6_numberOfTrailingZeros_0f7a4 77 = .ok (.iushr, 1) := by decide +kernel
theorem dJ6_numberOfTrailingZeros_0f7a4_78 : decode cJ6_numberOfTrailingZeros_0f7a4 78 = .ok (.iadd, 1) := by decide +kernel
theorem dJ6_numberOfTrailingZeros_0f7a4_79 : decode cJ6_numberOfTrailingZeros_0f7a4 79 = .ok (.ireturn, 1) := by decide +kernel
theorem dJ6_bitCount_0f7a4_0 : decode cJ6_bitCount_0f7a4 0 = .ok (.iload_n 0, 1) := by decide +kernel
theorem dJ6_bitCount_0f7a4_1 : decode cJ6_bitCount_0f7a4 1 = .ok (.iload_n 0, 1) := by decide +kernel
theorem dJ6_bitCount_0f7a4_2 : decode cJ6_bitCount_0f7a4 2 = .ok (.iconst 1, 1) := by decide +kernel
theorem dJ6_bitCount_0f7a4_3 : decode cJ6_bitCount_0f7a4 3 = .ok (.iushr, 1) := by decide +kernel
theorem dJ6_bitCount_0f7a4_4 : decode cJ6_bitCount_0f7a4 4 = .ok (.ldc_w 265, 3) := by decide +kernel
theorem dJ6_bitCount_0f7a4_7 : decode cJ6_bitCount_0f7a4 7 = .ok (.iand, 1) := by decide +kernel
theorem dJ6_bitCount_0f7a4_8 : decode cJ6_bitCount_0f7a4 8 = .ok (.isub, 1) := by decide +kernel
theorem dJ6_bitCount_0f7a4_9 : decode cJ6_bitCount_0f7a4 9 = .ok (.istore_n 0, 1) := by decide +kernel
theorem dJ6_bitCount_0f7a4_10 : decode cJ6_bitCount_0f7a4 10 = .ok (.iload_n 0, 1) := by decide +kernel
theorem dJ6_bitCount_0f7a4_11 : decode cJ6_bitCount_0f7a4 11 = .ok (.ldc_w 266, 3) := by decide +kernel
theorem dJ6_bitCount_0f7a4_14 : decode cJ6_bitCount_0f7a4 14 = .ok (.iand, 1) := by decide +kernel
theorem dJ6_bitCount_0f7a4_15 : decode cJ6_bitCount_0f7a4 15 = .ok (.iload_n 0, 1) := by decide +kernel
theorem dJ6_bitCount_0f7a4_16 : decode cJ6_bitCount_0f7a4 16 = .ok (.iconst 2, 1) := by decide +kernel
theorem dJ6_bitCount_0f7a4_17 : decode cJ6_bitCount_0f7a4 17 = .ok (.iushr, 1) := by decide +kernel
theorem dJ6_bitCount_0f7a4_18 : decode cJ6_bitCount_0f7a4 18 = .ok (.ldc_w 266, 3) := by decide +kernel
theorem dJ6_bitCount_0f7a4_21 : decode cJ6_bitCount_0f7a4 21 = .ok (.iand, 1) := by decide +kernel
theorem dJ6_bitCount_0f7a4_22 : decode cJ6_bitCount_0f7a4 22 = .ok (.iadd, 1) := by decide +kernel
theorem dJ6_bitCount_0f7a4_23 : decode cJ6_bitCount_0f7a4 23 = .ok (.istore_n 0, 1) := by decide +kernel
theorem dJ6_bitCount_0f7a4_24 : decode cJ6_bitCount_0f7a4 24 = .ok (.iload_n 0, 1) := by decide +kernel
theorem dJ6_bitCount_0f7a4_25 : decode cJ6_bitCount_0f7a4 25 = .ok (.iload_n 0, 1) := by decide +kernel
theorem dJ6_bitCount_0f7a4_26 : decode cJ6_bitCount_0f7a4 26 = .ok (.iconst 4, 1) := by decide +kernel
theorem dJ6_bitCount_0f7a4_27 : decode cJ6_bitCount_0f7a4 27 = .ok (.iushr, 1) := by decide +kernel
theorem dJ6_bitCount_0f7a4_28 : decode cJ6_bitCount_0f7a4 28 = .ok (.iadd, 1) := by decide +kernel
theorem dJ6_bitCount_0f7a4_29 : decode cJ6_bitCount_0f7a4 29 = .ok (.ldc_w 267, 3) := by decide +kernel
theorem dJ6_bitCount_0f7a4_32 : decode cJ6_bitCount_0f7a4 32 = .ok (.iand, 1) := by decide +kernel
theorem dJ6_bitCount_0f7a4_33 : decode cJ6_bitCount_0f7a4 33 = .ok (.istore_n 0, 1) := by decide +kernel
theorem dJ6_bitCount_0f7a4_34 : decode cJ6_bitCount_0f7a4 34 = .ok (.iload_n 0, 1) := by decide +kernel
theorem dJ6_bitCount_0f7a4_35 : decode cJ6_bitCount_0f7a4 35 = .ok (.iload_n 0, 1) := by decide +kernel
theorem dJ6_bitCount_0f7a4_36 : decode cJ6_bitCount_0f7a4 36 = .ok (.bipush 8, 2) := by decide +kernel
theorem dJ6_bitCount_0f7a4_38 : decode cJ6_bitCount_0f7a4 38 = .ok (.iushr, 1) := by decide +kernel
theorem dJ6_bitCount_0f7a4_39 : decode cJ6_bitCount_0f7a4 39 = .ok (.iadd, 1) := by decide +kernel
theorem dJ6_bitCount_0f7a4_40 : decode cJ6_bitCount_0f7a4 40 = .ok (.istore_n 0, 1) := by decide +kernel
theorem dJ6_bitCount_0f7a4_41 : decode cJ6_bitCount_0f7a4 41 = .ok (.iload_n 0, 1) := by decide +kernel
theorem dJ6_bitCount_0f7a4_42 : decode cJ6_bitCount_0f7a4 42 = .ok (.iload_n 0, 1) := by decide +kernel
theorem dJ6_bitCount_0f7a4_43 : decode cJ6_bitCount_0f7a4 43 = .ok (.bipush 16, 2) := by decide +kernel
theorem dJ6_bitCount_0f7a4_45 : decode cJ6_bitCount_0f7a4 45 = .ok (.iushr, 1) := by decide +kernel
theorem dJ6_bitCount_0f7a4_46 : decode cJ6_bitCount_0f7a4 46 = .ok (.iadd, 1) := by decide +kernel
theorem dJ6_bitCount_0f7a4_47 : decode cJ6_bitCount_0f7a4 47 = .ok (.istore_n 0, 1) := by decide +kernel
theorem dJ6_bitCount_0f7a4_48 : decode cJ6_bitCount_0f7a4 48 = .ok (.iload_n 0, 1) := by decide +kernel
theorem dJ6_bitCount_0f7a4_49 : decode cJ6_bitCount_0f7a4 49 = .ok (.bipush 63, 2) := by decide +kernel
theorem dJ6_bitCount_0f7a4_51 : decode cJ6_bitCount_0f7a4 51 = .ok (.iand, 1) := by decide +kernel
theorem dJ6_bitCount_0f7a4_52 : decode cJ6_bitCount_0f7a4 52 = .ok (.ireturn, 1) := by decide +kernel
theorem dJ9_min_7cf53_0 : decode cJ9_min_7cf53 0 = .ok (.iload_n 0, 1) := by decide +kernel
theorem dJ9_min_7cf53_1 : decode cJ9_min_7cf53 1 = .ok (.iload_n 1, 1) := by decide +kernel
theorem dJ9_min_7cf53_2 : decode cJ9_min_7cf53 2 = .ok (.if_icmp .gt 7, 3) := by decide +kernel
theorem dJ9_min_7cf53_5 : decode cJ9_min_7cf53 5 = .ok (.iload_n 0, 1) := by decide +kernel
theorem dJ9_min_7cf53_6 : decode cJ9_min_7cf53 6 = .ok (.goto 4, 3) := by decide +kernel
theorem dJ9_min_7cf53_9 : decode cJ9_min_7cf53 9 = .ok (.iload_n 1, 1) := by decide +kernel
theorem dJ9_min_7cf53_10 : decode cJ9_min_7cf53 10 = .ok (.ireturn, 1) := by decide +kernel
theorem dJ7_fill_d0a16_0 : decode cJ7_fill_d0a16 0 = .ok (.iconst 0, 1) := by decide +kernel
theorem dJ7_fill_d0a16_1 : decode cJ7_fill_d0a16 1 = .ok (.istore_n 3, 1) := by decide +kernel
theorem dJ7_fill_d0a16_2 : decode cJ7_fill_d0a16 2 = .ok (.aload_n 0, 1) := by decide +kernel
theorem dJ7_fill_d0a16_3 : decode cJ7_fill_d0a16 3 = .ok (.arraylength, 1) := by decide +kernel
theorem dJ7_fill_d0a16_4 : decode cJ7_fill_d0a16 4 = .ok (.istore 4, 2) := by decide +kernel
theorem dJ7_fill_d0a16_6 : decode cJ7_fill_d0a16 6 = .ok (.iload_n 3, 1) := by decide +kernel
theorem dJ7_fill_d0a16_7 : decode cJ7_fill_d0a16 7 = .ok (.iload 4, 2) := by decide +kernel
theorem dJ7_fill_d0a16_9 : decode cJ7_fill_d0a16 9 = .ok (.if_icmp .ge 13, 3) := by decide +kernel
theorem dJ7_fill_d0a16_12 : decode cJ7_fill_d0a16 12 = .ok (.aload_n 0, 1) := by decide +kernel
theorem dJ7_fill_d0a16_13 : decode cJ7_fill_d0a16 13 = .ok (.iload_n 3, 1) := by decide +kernel
theorem dJ7_fill_d0a16_14 : decode cJ7_fill_d0a16 14 = .ok (.lload_n 1, 1) := by decide +kernel
theorem dJ7_fill_d0a16_15 : decode cJ7_fill_d0a16 15 = .ok (.lastore, 1) := by decide +kernel
theorem dJ7_fill_d0a16_16 : decode cJ7_fill_d0a16 16 = .ok (.iinc 3 1, 3) := by decide +kernel
theorem dJ7_fill_d0a16_19 : decode cJ7_fill_d0a16 19 = .ok (.goto (-13), 3) := by decide +kernel
theorem dJ7_fill_d0a16_22 : decode cJ7_fill_d0a16 22 = .ok (.return_, 1) := by decide +kernel
theorem dJ7_fill_53178_0 : decode cJ7_fill_53178 0 = .ok (.iconst 0, 1) := by decide +kernel
theorem dJ7_fill_53178_1 : decode cJ7_fill_53178 1 = .ok (.istore_n 2, 1) := by decide +kernel
theorem dJ7_fill_53178_2 : decode cJ7_fill_53178 2 = .ok (.aload_n 0, 1) := by decide +kernel
theorem dJ7_fill_53178_3 : decode cJ7_fill_53178 3 = .ok (.arraylength, 1) := by decide +kernel
theorem dJ7_fill_53178_4 : decode cJ7_fill_53178 4 = .ok (.istore_n 3, 1) := by decide +kernel
theorem dJ7_fill_53178_5 : decode cJ7_fill_53178 5 = .ok (.iload_n 2, 1) := by decide +kernel
theorem dJ7_fill_53178_6 : decode cJ7_fill_53178 6 = .ok (.iload_n 3, 1) := by decide +kernel
theorem dJ7_fill_53178_7 : decode cJ7_fill_53178 7 = .ok (.if_icmp .ge 13, 3) := by decide +kernel
theorem dJ7_fill_53178_10 : decode cJ7_fill_53178 10 = .ok (.aload_n 0, 1) := by decide +kernel
theorem dJ7_fill_53178_11 : decode cJ7_fill_53178 11 = .ok (.iload_n 2, 1) := by decide +kernel
theorem dJ7_fill_53178_12 : decode cJ7_fill_53178 12 = .ok (.iload_n 1, 1) := by decide +kernel
theorem dJ7_fill_53178_13 : decode cJ7_fill_53178 13 = .ok (.iastore, 1) := by decide +kernel
theorem dJ7_fill_53178_14 : decode cJ7_fill_53178 14 = .ok (.iinc 2 1, 3) := by decide +kernel
theorem dJ7_fill_53178_17 : decode cJ7_fill_53178 17 = .ok (.goto (-12), 3) := by decide +kernel
theorem dJ7_fill_53178_20 : decode cJ7_fill_53178 20 = .ok (.return_, 1) := by decide +kernel
theorem dL_law_0 : decode cL_law 0 = .ok (.new 7, 3) := by decide +kernel
theorem dL_law_3 : decode cL_law 3 = .ok (.dup, 1) := by decide +kernel
theorem dL_law_4 : decode cL_law 4 = .ok (.invokespecial 9, 3) := by decide +kernel
theorem dL_law_7 : decode cL_law 7 = .ok (.astore_n 1, 1) := by decide +kernel
theorem dL_law_8 : decode cL_law 8 = .ok (.new 10, 3) := by decide +kernel
theorem dL_law_11 : decode cL_law 11 = .ok (.dup, 1) := by decide +kernel
theorem dL_law_12 : decode cL_law 12 = .ok (.invokespecial 12, 3) := by decide +kernel
theorem dL_law_15 : decode cL_law 15 = .ok (.astore_n 2, 1) := by decide +kernel
theorem dL_law_16 : decode cL_law 16 = .ok (.iconst 0, 1) := by decide +kernel
theorem dL_law_17 : decode cL_law 17 = .ok (.istore_n 3, 1) := by decide +kernel
theorem dL_law_18 : decode cL_law 18 = .ok (.iload_n 3, 1) := by decide +kernel
theorem dL_law_19 : decode cL_law 19 = .ok (.aload_n 0, 1) := by decide +kernel
theorem dL_law_20 : decode cL_law 20 = .ok (.arraylength, 1) := by decide +kernel
theorem dL_law_21 : decode cL_law 21 = .ok (.bipush 6, 2) := by decide +kernel
theorem dL_law_23 : decode cL_law 23 = .ok (.isub, 1) := by decide +kernel
theorem dL_law_24 : decode cL_law 24 = .ok (.if_icmp .gt 1043, 3) := by decide +kernel
theorem dL_law_27 : decode cL_law 27 = .ok (.aload_n 0, 1) := by decide +kernel
theorem dL_law_28 : decode cL_law 28 = .ok (.iload_n 3, 1) := by decide +kernel
theorem dL_law_29 : decode cL_law 29 = .ok (.iaload, 1) := by decide +kernel
theorem dL_law_30 : decode cL_law 30 = .ok (.bipush 31, 2) := by decide +kernel
theorem dL_law_32 : decode cL_law 32 = .ok (.iand, 1) := by decide +kernel
theorem dL_law_33 : decode cL_law 33 = .ok (.tableswitch 1028 0 28 #[131, 154, 177, 190, 223, 256, 279, 292, 325, 358, 391, 424, 447, 480, 513, 536, 579, 602, 615, 638, 651, 674, 687, 700, 763, 816, 859, 882, 965], 131) := by decide +kernel
theorem dL_law_164 : decode cL_law 164 = .ok (.aload_n 1, 1) := by decide +kernel
theorem dL_law_165 : decode cL_law 165 = .ok (.aload_n 0, 1) := by decide +kernel
theorem dL_law_166 : decode cL_law 166 = .ok (.iload_n 3, 1) := by decide +kernel
theorem dL_law_167 : decode cL_law 167 = .ok (.iconst 1, 1) := by decide +kernel
theorem dL_law_168 : decode cL_law 168 = .ok (.iadd, 1) := by decide +kernel
theorem dL_law_169 : decode cL_law 169 = .ok (.iaload, 1) := by decide +kernel
theorem dL_law_170 : decode cL_law 170 = .ok (.invokevirtual 13, 3) := by decide +kernel
theorem dL_law_173 : decode cL_law 173 = .ok (.aload_n 2, 1) := by decide +kernel
theorem dL_law_174 : decode cL_law 174 = .ok (.aload_n 0, 1) := by decide +kernel
theorem dL_law_175 : decode cL_law 175 = .ok (.iload_n 3, 1) := by decide +kernel
theorem dL_law_176 : decode cL_law 176 = .ok (.iconst 1, 1) := by decide +kernel
theorem dL_law_177 : decode cL_law 177 = .ok (.iadd, 1) := by decide +kernel
theorem dL_law_178 : decode cL_law 178 = .ok (.iaload, 1) := by decide +kernel
theorem dL_law_179 : decode cL_law 179 = .ok (.invokevirtual 17, 3) := by decide +kernel
theorem dL_law_182 : decode cL_law 182 = .ok (.if_icmp .eq 879, 3) := by decide +kernel
theorem dL_law_185 : decode cL_law 185 = .ok (.iconst 0, 1) := by decide +kernel
theorem dL_law_186 : decode cL_law 186 = .ok (.ireturn, 1) := by decide +kernel
theorem dL_law_187 : decode cL_law 187 = .ok (.aload_n 1, 1) := by decide +kernel
theorem dL_law_188 : decode cL_law 188 = .ok (.aload_n 0, 1) := by decide +kernel
theorem dL_law_189 : decode cL_law 189 = .ok (.iload_n 3, 1) := by decide +kernel
theorem dL_law_190 : decode cL_law 190 = .ok (.iconst 1, 1) := by decide +kernel
theorem dL_law_191 : decode cL_law 191 = .ok (.iadd, 1) := by decide +kernel
theorem dL_law_192 : decode cL_law 192 = .ok (.iaload, 1) := by decide +kernel
theorem dL_law_193 : decode cL_law 193 = .ok (.invokevirtual 18, 3) := by decide +kernel
theorem dL_law_196 : decode cL_law 196 = .ok (.aload_n 2, 1) := by decide +kernel
theorem dL_law_197 : decode cL_law 197 = .ok (.aload_n 0, 1) := by decide +kernel
theorem dL_law_198 : decode cL_law 198 = .ok (.iload_n 3, 1) := by decide +kernel
theorem dL_law_199 : decode cL_law 199 = .ok (.iconst 1, 1) := by decide +kernel
theorem dL_law_200 : decode cL_law 200 = .ok (.iadd, 1) := by decide +kernel
theorem dL_law_201 : decode cL_law 201 = .ok (.iaload, 1) := by decide +kernel
theorem dL_law_202 : decode cL_law 202 = .ok (.invokevirtual 21, 3) := by decide +kernel
theorem dL_law_205 : decode cL_law 205 = .ok (.if_icmp .eq 856, 3) := by decide +kernel
theorem dL_law_208 : decode cL_law 208 = .ok (.iconst 0, 1) := by decide +kernel
theorem dL_law_209 : decode cL_law 209 = .ok (.ireturn, 1) := by decide +kernel
theorem dL_law_210 : decode cL_law 210 = .ok (.aload_n 1, 1) := by decide +kernel
theorem dL_law_211 : decode cL_law 211 = .ok (.invokevirtual 22, 3) := by decide +kernel
theorem dL_law_214 : decode cL_law 214 = .ok (.aload_n 2, 1) := by decide +kernel
theorem dL_law_215 : decode cL_law 215 = .ok (.invokevirtual 26, 3) := by decide +kernel
theorem dL_law_218 : decode cL_law 218 = .ok (.if_icmp .eq 843, 3) := by decide +kernel
theorem dL_law_221 : decode cL_law 221 = .ok (.iconst 0, 1) := by decide +kernel
theorem dL_law_222 : decode cL_law 222 = .ok (.ireturn, 1) := by decide +kernel
theorem dL_law_223 : decode cL_law 223 = .ok (.aload_n 1, 1) := by decide +kernel
theorem dL_law_224 : decode cL_law 224 = .ok (.aload_n 0, 1) := by decide +kernel
theorem dL_law_225 : decode cL_law 225 = .ok (.iload_n 3, 1) := by decide +kernel
theorem dL_law_226 : decode cL_law 226 = .ok (.iconst 1, 1) := by decide +kernel
theorem dL_law_227 : decode cL_law 227 = .ok (.iadd, 1) := by decide +kernel
theorem dL_law_228 : decode cL_law 228 = .ok (.iaload, 1) := by decide +kernel
theorem dL_law_229 : decode cL_law 229 = .ok (.aload_n 0, 1) := by decide +kernel
theorem dL_law_230 : decode cL_law 230 = .ok (.iload_n 3, 1) := by decide +kernel
theorem dL_law_231 : decode cL_law 231 = .ok (.iconst 2, 1) := by decide +kernel
theorem dL_law_232 : decode cL_law 232 = .ok (.iadd, 1) := by decide +kernel
theorem dL_law_233 : decode cL_law 233 = .ok (.iaload, 1) := by decide +kernel
theorem dL_law_234 : decode cL_law 234 = .ok (.invokevirtual 27, 3) := by decide +kernel
theorem dL_law_237 : decode cL_law 237 = .ok (.aload_n 2, 1) := by decide +kernel
theorem dL_law_238 : decode cL_law 238 = .ok (.aload_n 0, 1) := by decide +kernel
theorem dL_law_239 : decode cL_law 239 = .ok (.iload_n 3, 1) := by decide +kernel
theorem dL_law_240 : decode cL_law 240 = .ok (.iconst 1, 1) := by decide +kernel
theorem dL_law_241 : decode cL_law 241 = .ok (.iadd, 1) := by decide +kernel
theorem dL_law_242 : decode cL_law 242 = .ok (.iaload, 1) := by decide +kernel
theorem dL_law_243 : decode cL_law 243 = .ok (.aload_n 0, 1) := by decide +kernel
theorem dL_law_244 : decode cL_law 244 = .ok (.iload_n 3, 1) := by decide +kernel
theorem dL_law_245 : decode cL_law 245 = .ok (.iconst 2, 1) := by decide +kernel
theorem dL_law_246 : decode cL_law 246 = .ok (.iadd, 1) := by decide +kernel
theorem dL_law_247 : decode cL_law 247 = .ok (.iaload, 1) := by decide +kernel
theorem dL_law_248 : decode cL_law 248 = .ok (.invokevirtual 31, 3) := by decide +kernel
theorem dL_law_251 : decode cL_law 251 = .ok (.if_icmp .eq 810, 3) := by decide +kernel
theorem dL_law_254 : decode cL_law 254 = .ok (.iconst 0, 1) := by decide +kernel
theorem dL_law_255 : decode cL_law 255 = .ok (.ireturn, 1) := by decide +kernel
theorem dL_law_256 : decode cL_law 256 = .ok (.aload_n 1, 1) := by decide +kernel
theorem dL_law_257 : decode cL_law 257 = .ok (.aload_n 0, 1) := by decide +kernel
theorem dL_law_258 : decode cL_law 258 = .ok (.iload_n 3, 1) := by decide +kernel
theorem dL_law_259 : decode cL_law 259 = .ok (.iconst 1, 1) := by decide +kernel
theorem dL_law_260 : decode cL_law 260 = .ok (.iadd, 1) := by decide +kernel
theorem dL_law_261 : decode cL_law 261 = .ok (.iaload, 1) := by decide +kernel
theorem dL_law_262 : decode cL_law 262 = .ok (.aload_n 0, 1) := by decide +kernel
theorem dL_law_263 : decode cL_law 263 = .ok (.iload_n 3, 1) := by decide +kernel
theorem dL_law_264 : decode cL_law 264 = .ok (.iconst 2, 1) := by decide +kernel
theorem dL_law_265 : decode cL_law 265 = .ok (.iadd, 1) := by decide +kernel
theorem dL_law_266 : decode cL_law 266 = .ok (.iaload, 1) := by decide +kernel
theorem dL_law_267 : decode cL_law 267 = .ok (.invokevirtual 32, 3) := by decide +kernel
theorem dL_law_270 : decode cL_law 270 = .ok (.aload_n 2, 1) := by decide +kernel
theorem dL_law_271 : decode cL_law 271 = .ok (.aload_n 0, 1) := by decide +kernel
theorem dL_law_272 : decode cL_law 272 = .ok (.iload_n 3, 1) := by decide +kernel
theorem dL_law_273 : decode cL_law 273 = .ok (.iconst 1, 1) := by decide +kernel
theorem dL_law_274 : decode cL_law 274 = .ok (.iadd, 1) := by decide +kernel
theorem dL_law_275 : decode cL_law 275 = .ok (.iaload, 1) := by decide +kernel
theorem dL_law_276 : decode cL_law 276 = .ok (.aload_n 0, 1) := by decide +kernel
theorem dL_law_277 : decode cL_law 277 = .ok (.iload_n 3, 1) := by decide +kernel
theorem dL_law_278 : decode cL_law 278 = .ok (.iconst 2, 1) := by decide +kernel
theorem dL_law_279 : decode cL_law 279 = .ok (.iadd, 1) := by decide +kernel
theorem dL_law_280 : decode cL_law 280 = .ok (.iaload, 1) := by decide +kernel
theorem dL_law_281 : decode cL_law 281 = .ok (.invokevirtual 35, 3) := by decide +kernel
theorem dL_law_284 : decode cL_law 284 = .ok (.if_icmp .eq 777, 3) := by decide +kernel
theorem dL_law_287 : decode cL_law 287 = .ok (.iconst 0, 1) := by decide +kernel
theorem dL_law_288 : decode cL_law 288 = .ok (.ireturn, 1) := by decide +kernel
theorem dL_law_289 : decode cL_law 289 = .ok (.aload_n 1, 1) := by decide +kernel
theorem dL_law_290 : decode cL_law 290 = .ok (.aload_n 0, 1) := by decide +kernel
theorem dL_law_291 : decode cL_law 291 = .ok (.iload_n 3, 1) := by decide +kernel
theorem dL_law_292 : decode cL_law 292 = .ok (.iconst 1, 1) := by decide +kernel
theorem dL_law_293 : decode cL_law 293 = .ok (.iadd, 1) := by decide +kernel
theorem dL_law_294 : decode cL_law 294 = .ok (.iaload, 1) := by decide +kernel
theorem dL_law_295 : decode cL_law 295 = .ok (.invokevirtual 36, 3) := by decide +kernel
theorem dL_law_298 : decode cL_law 298 = .ok (.aload_n 2, 1) := by decide +kernel
theorem dL_law_299 : decode cL_law 299 = .ok (.aload_n 0, 1) := by decide +kernel
theorem dL_law_300 : decode cL_law 300 = .ok (.iload_n 3, 1) := by decide +kernel
theorem dL_law_301 : decode cL_law 301 = .ok (.iconst 1, 1) := by decide +kernel
theorem dL_law_302 : decode cL_law 302 = .ok (.iadd, 1) := by decide +kernel
theorem dL_law_303 : decode cL_law 303 = .ok (.iaload, 1) := by decide +kernel
theorem dL_law_304 : decode cL_law 304 = .ok (.invokevirtual 39, 3) := by decide +kernel
theorem dL_law_307 : decode cL_law 307 = .ok (.if_icmp .eq 754, 3) := by decide +kernel
theorem dL_law_310 : decode cL_law 310 = .ok (.iconst 0, 1) := by decide +kernel
theorem dL_law_311 : decode cL_law 311 = .ok (.ireturn, 1) := by decide +kernel
theorem dL_law_312 : decode cL_law 312 = .ok (.aload_n 1, 1) := by decide +kernel
theorem dL_law_313 : decode cL_law 313 = .ok (.invokevirtual 40, 3) := by decide +kernel
theorem dL_law_316 : decode cL_law 316 = .ok (.aload_n 2, 1) := by decide +kernel
theorem dL_law_317 : decode cL_law 317 = .ok (.invokevirtual 43, 3) := by decide +kernel
theorem dL_law_320 : decode cL_law 320 = .ok (.if_icmp .eq 741, 3) := by decide +kernel
theorem dL_law_323 : decode cL_law 323 = .ok (.iconst 0, 1) := by decide +kernel
theorem dL_law_324 : decode cL_law 324 = .ok (.ireturn, 1) := by decide +kernel
theorem dL_law_325 : decode cL_law 325 = .ok (.aload_n 1, 1) := by decide +kernel
theorem dL_law_326 : decode cL_law 326 = .ok (.aload_n 0, 1) := by decide +kernel
theorem dL_law_327 : decode cL_law 327 = .ok (.iload_n 3, 1) := by decide +kernel
theorem dL_law_328 : decode cL_law 328 = .ok (.iconst 1, 1) := by decide +kernel
theorem dL_law_329 : decode cL_law 329 = .ok (.iadd, 1) := by decide +kernel
theorem dL_law_330 : decode cL_law 330 = .ok (.iaload, 1) := by decide +kernel
theorem dL_law_331 : decode cL_law 331 = .ok (.aload_n 0, 1) := by decide +kernel
theorem dL_law_332 : decode cL_law 332 = .ok (.iload_n 3, 1) := by decide +kernel
theorem dL_law_333 : decode cL_law 333 = .ok (.iconst 2, 1) := by decide +kernel
theorem dL_law_334 : decode cL_law 334 = .ok (.iadd, 1) := by decide +kernel
theorem dL_law_335 : decode cL_law 335 = .ok (.iaload, 1) := by decide +kernel
theorem dL_law_336 : decode cL_law 336 = .ok (.invokevirtual 44, 3) := by decide +kernel
theorem dL_law_339 : decode cL_law 339 = .ok (.aload_n 2, 1) := by decide +kernel
theorem dL_law_340 : decode cL_law 340 = .ok (.aload_n 0, 1) := by decide +kernel
theorem dL_law_341 : decode cL_law 341 = .ok (.iload_n 3, 1) := by decide +kernel
theorem dL_law_342 : decode cL_law 342 = .ok (.iconst 1, 1) := by decide +kernel
theorem dL_law_343 : decode cL_law 343 = .ok (.iadd, 1) := by decide +kernel
theorem dL_law_344 : decode cL_law 344 = .ok (.iaload, 1) := by decide +kernel
theorem dL_law_345 : decode cL_law 345 = .ok (.aload_n 0, 1) := by decide +kernel
theorem dL_law_346 : decode cL_law 346 = .ok (.iload_n 3, 1) := by decide +kernel
theorem dL_law_347 : decode cL_law 347 = .ok (.iconst 2, 1) := by decide +kernel
theorem dL_law_348 : decode cL_law 348 = .ok (.iadd, 1) := by decide +kernel
theorem dL_law_349 : decode cL_law 349 = .ok (.iaload, 1) := by decide +kernel
theorem dL_law_350 : decode cL_law 350 = .ok (.invokevirtual 47, 3) := by decide +kernel
theorem dL_law_353 : decode cL_law 353 = .ok (.if_icmp .eq 708, 3) := by decide +kernel
theorem dL_law_356 : decode cL_law 356 = .ok (.iconst 0, 1) := by decide +kernel
theorem dL_law_357 : decode cL_law 357 = .ok (.ireturn, 1) := by decide +kernel
theorem dL_law_358 : decode cL_law 358 = .ok (.aload_n 1, 1) := by decide +kernel
theorem dL_law_359 : decode cL_law 359 = .ok (.aload_n 0, 1) := by decide +kernel
theorem dL_law_360 : decode cL_law 360 = .ok (.iload_n 3, 1) := by decide +kernel
theorem dL_law_361 : decode cL_law 361 = .ok (.iconst 1, 1) := by decide +kernel
theorem dL_law_362 : decode cL_law 362 = .ok (.iadd, 1) := by decide +kernel
theorem dL_law_363 : decode cL_law 363 = .ok (.iaload, 1) := by decide +kernel
theorem dL_law_364 : decode cL_law 364 = .ok (.aload_n 0, 1) := by decide +kernel
theorem dL_law_365 : decode cL_law 365 = .ok (.iload_n 3, 1) := by decide +kernel
theorem dL_law_366 : decode cL_law 366 = .ok (.iconst 2, 1) := by decide +kernel
theorem dL_law_367 : decode cL_law 367 = .ok (.iadd, 1) := by decide +kernel
theorem dL_law_368 : decode cL_law 368 = .ok (.iaload, 1) := by decide +kernel
theorem dL_law_369 : decode cL_law 369 = .ok (.invokevirtual 48, 3) := by decide +kernel
theorem dL_law_372 : decode cL_law 372 = .ok (.aload_n 2, 1) := by decide +kernel
theorem dL_law_373 : decode cL_law 373 = .ok (.aload_n 0, 1) := by decide +kernel
theorem dL_law_374 : decode cL_law 374 = .ok (.iload_n 3, 1) := by decide +kernel
theorem dL_law_375 : decode cL_law 375 = .ok (.iconst 1, 1) := by decide +kernel
theorem dL_law_376 : decode cL_law 376 = .ok (.iadd, 1) := by decide +kernel
theorem dL_law_377 : decode cL_law 377 = .ok (.iaload, 1) := by decide +kernel
theorem dL_law_378 : decode cL_law 378 = .ok (.aload_n 0, 1) := by decide +kernel
theorem dL_law_379 : decode cL_law 379 = .ok (.iload_n 3, 1) := by decide +kernel
theorem dL_law_380 : decode cL_law 380 = .ok (.iconst 2, 1) := by decide +kernel
theorem dL_law_381 : decode cL_law 381 = .ok (.iadd, 1) := by decide +kernel
theorem dL_law_382 : decode cL_law 382 = .ok (.iaload, 1) := by decide +kernel
theorem dL_law_383 : decode cL_law 383 = .ok (.invokevirtual 51, 3) := by decide +kernel
theorem dL_law_386 : decode cL_law 386 = .ok (.if_icmp .eq 675, 3) := by decide +kernel
theorem dL_law_389 : decode cL_law 389 = .ok (.iconst 0, 1) := by decide +kernel
theorem dL_law_390 : decode cL_law 390 = .ok (.ireturn, 1) := by decide +kernel
theorem dL_law_391 : decode cL_law 391 = .ok (.aload_n 1, 1) := by decide +kernel
theorem dL_law_392 : decode cL_law 392 = .ok (.aload_n 0, 1) := by decide +kernel
theorem dL_law_393 : decode cL_law 393 = .ok (.iload_n 3, 1) := by decide +kernel
theorem dL_law_394 : decode cL_law 394 = .ok (.iconst 1, 1) := by decide +kernel
theorem dL_law_395 : decode cL_law 395 = .ok (.iadd, 1) := by decide +kernel
theorem dL_law_396 : decode cL_law 396 = .ok (.iaload, 1) := by decide +kernel
theorem dL_law_397 : decode cL_law 397 = .ok (.aload_n 0, 1) := by decide +kernel
theorem dL_law_398 : decode cL_law 398 = .ok (.iload_n 3, 1) := by decide +kernel
theorem dL_law_399 : decode cL_law 399 = .ok (.iconst 2, 1) := by decide +kernel
theorem dL_law_400 : decode cL_law 400 = .ok (.iadd, 1) := by decide +kernel
theorem dL_law_401 : decode cL_law 401 = .ok (.iaload, 1) := by decide +kernel
theorem dL_law_402 : decode cL_law 402 = .ok (.invokevirtual 52, 3) := by decide +kernel
theorem dL_law_405 : decode cL_law 405 = .ok (.aload_n 2, 1) := by decide +kernel
theorem dL_law_406 : decode cL_law 406 = .ok (.aload_n 0, 1) := by decide +kernel
theorem dL_law_407 : decode cL_law 407 = .ok (.iload_n 3, 1) := by decide +kernel
theorem dL_law_408 : decode cL_law 408 = .ok (.iconst 1, 1) := by decide +kernel
theorem dL_law_409 : decode cL_law 409 = .ok (.iadd, 1) := by decide +kernel
theorem dL_law_410 : decode cL_law 410 = .ok (.iaload, 1) := by decide +kernel
theorem dL_law_411 : decode cL_law 411 = .ok (.aload_n 0, 1) := by decide +kernel
theorem dL_law_412 : decode cL_law 412 = .ok (.iload_n 3, 1) := by decide +kernel
theorem dL_law_413 : decode cL_law 413 = .ok (.iconst 2, 1) := by decide +kernel
theorem dL_law_414 : decode cL_law 414 = .ok (.iadd, 1) := by decide +kernel
theorem dL_law_415 : decode cL_law 415 = .ok (.iaload, 1) := by decide +kernel
theorem dL_law_416 : decode cL_law 416 = .ok (.invokevirtual 55, 3) := by decide +kernel
theorem dL_law_419 : decode cL_law 419 = .ok (.if_icmp .eq 642, 3) := by decide +kernel
theorem dL_law_422 : decode cL_law 422 = .ok (.iconst 0, 1) := by decide +kernel
theorem dL_law_423 : decode cL_law 423 = .ok (.ireturn, 1) := by decide +kernel
theorem dL_law_424 : decode cL_law 424 = .ok (.aload_n 1, 1) := by decide +kernel
theorem dL_law_425 : decode cL_law 425 = .ok (.aload_n 0, 1) := by decide +kernel
theorem dL_law_426 : decode cL_law 426 = .ok (.iload_n 3, 1) := by decide +kernel
theorem dL_law_427 : decode cL_law 427 = .ok (.iconst 1, 1) := by decide +kernel
theorem dL_law_428 : decode cL_law 428 = .ok (.iadd, 1) := by decide +kernel
theorem dL_law_429 : decode cL_law 429 = .ok (.iaload, 1) := by decide +kernel
theorem dL_law_430 : decode cL_law 430 = .ok (.aload_n 0, 1) := by decide +kernel
theorem dL_law_431 : decode cL_law 431 = .ok (.iload_n 3, 1) := by decide +kernel
theorem dL_law_432 : decode cL_law 432 = .ok (.iconst 2, 1) := by decide +kernel
theorem dL_law_433 : decode cL_law 433 = .ok (.iadd, 1) := by decide +kernel
theorem dL_law_434 : decode cL_law 434 = .ok (.iaload, 1) := by decide +kernel
theorem dL_law_435 : decode cL_law 435 = .ok (.invokevirtual 56, 3) := by decide +kernel
theorem dL_law_438 : decode cL_law 438 = .ok (.aload_n 2, 1) := by decide +kernel
theorem dL_law_439 : decode cL_law 439 = .ok (.aload_n 0, 1) := by decide +kernel
theorem dL_law_440 : decode cL_law 440 = .ok (.iload_n 3, 1) := by decide +kernel
theorem dL_law_441 : decode cL_law 441 = .ok (.iconst 1, 1) := by decide +kernel
theorem dL_law_442 : decode cL_law 442 = .ok (.iadd, 1) := by decide +kernel
theorem dL_law_443 : decode cL_law 443 = .ok (.iaload, 1) := by decide +kernel
theorem dL_law_444 : decode cL_law 444 = .ok (.aload_n 0, 1) := by decide +kernel
theorem dL_law_445 : decode cL_law 445 = .ok (.iload_n 3, 1) := by decide +kernel
theorem dL_law_446 : decode cL_law 446 = .ok (.iconst 2, 1) := by decide +kernel
theorem dL_law_447 : decode cL_law 447 = .ok (.iadd, 1) := by decide +kernel
theorem dL_law_448 : decode cL_law 448 = .ok (.iaload, 1) := by decide +kernel
theorem dL_law_449 : decode cL_law 449 = .ok (.invokevirtual 59, 3) := by decide +kernel
theorem dL_law_452 : decode cL_law 452 = .ok (.if_icmp .eq 609, 3) := by decide +kernel
theorem dL_law_455 : decode cL_law 455 = .ok (.iconst 0, 1) := by decide +kernel
theorem dL_law_456 : decode cL_law 456 = .ok (.ireturn, 1) := by decide +kernel
theorem dL_law_457 : decode cL_law 457 = .ok (.aload_n 1, 1) := by decide +kernel
theorem dL_law_458 : decode cL_law 458 = .ok (.aload_n 0, 1) := by decide +kernel
theorem dL_law_459 : decode cL_law 459 = .ok (.iload_n 3, 1) := by decide +kernel
theorem dL_law_460 : decode cL_law 460 = .ok (.iconst 1, 1) := by decide +kernel
theorem dL_law_461 : decode cL_law 461 = .ok (.iadd, 1) := by decide +kernel
theorem dL_law_462 : decode cL_law 462 = .ok (.iaload, 1) := by decide +kernel
theorem dL_law_463 : decode cL_law 463 = .ok (.invokevirtual 60, 3) := by decide +kernel
theorem dL_law_466 : decode cL_law 466 = .ok (.aload_n 2, 1) := by decide +kernel
theorem dL_law_467 : decode cL_law 467 = .ok (.aload_n 0, 1) := by decide +kernel
theorem dL_law_468 : decode cL_law 468 = .ok (.iload_n 3, 1) := by decide +kernel
theorem dL_law_469 : decode cL_law 469 = .ok (.iconst 1, 1) := by decide +kernel
theorem dL_law_470 : decode cL_law 470 = .ok (.iadd, 1) := by decide +kernel
theorem dL_law_471 : decode cL_law 471 = .ok (.iaload, 1) := by decide +kernel
theorem dL_law_472 : decode cL_law 472 = .ok (.invokevirtual 63, 3) := by decide +kernel
theorem dL_law_475 : decode cL_law 475 = .ok (.if_icmp .eq 586, 3) := by decide +kernel
theorem dL_law_478 : decode cL_law 478 = .ok (.iconst 0, 1) := by decide +kernel
theorem dL_law_479 : decode cL_law 479 = .ok (.ireturn, 1) := by decide +kernel
theorem dL_law_480 : decode cL_law 480 = .ok (.aload_n 1, 1) := by decide +kernel
theorem dL_law_481 : decode cL_law 481 = .ok (.aload_n 0, 1) := by decide +kernel
theorem dL_law_482 : decode cL_law 482 = .ok (.iload_n 3, 1) := by decide +kernel
theorem dL_law_483 : decode cL_law 483 = .ok (.iconst 1, 1) := by decide +kernel
theorem dL_law_484 : decode cL_law 484 = .ok (.iadd, 1) := by decide +kernel
theorem dL_law_485 : decode cL_law 485 = .ok (.iaload, 1) := by decide +kernel
theorem dL_law_486 : decode cL_law 486 = .ok (.aload_n 0, 1) := by decide +kernel
theorem dL_law_487 : decode cL_law 487 = .ok (.iload_n 3, 1) := by decide +kernel
theorem dL_law_488 : decode cL_law 488 = .ok (.iconst 2, 1) := by decide +kernel
theorem dL_law_489 : decode cL_law 489 = .ok (.iadd, 1) := by decide +kernel
theorem dL_law_490 : decode cL_law 490 = .ok (.iaload, 1) := by decide +kernel
theorem dL_law_491 : decode cL_law 491 = .ok (.invokevirtual 64, 3) := by decide +kernel
theorem dL_law_494 : decode cL_law 494 = .ok (.aload_n 2, 1) := by decide +kernel
theorem dL_law_495 : decode cL_law 495 = .ok (.aload_n 0, 1) := by decide +kernel
theorem dL_law_496 : decode cL_law 496 = .ok (.iload_n 3, 1) := by decide +kernel
theorem dL_law_497 : decode cL_law 497 = .ok (.iconst 1, 1) := by decide +kernel
theorem dL_law_498 : decode cL_law 498 = .ok (.iadd, 1) := by decide +kernel
theorem dL_law_499 : decode cL_law 499 = .ok (.iaload, 1) := by decide +kernel
theorem dL_law_500 : decode cL_law 500 = .ok (.aload_n 0, 1) := by decide +kernel
theorem dL_law_501 : decode cL_law 501 = .ok (.iload_n 3, 1) := by decide +kernel
theorem dL_law_502 : decode cL_law 502 = .ok (.iconst 2, 1) := by decide +kernel
theorem dL_law_503 : decode cL_law 503 = .ok (.iadd, 1) := by decide +kernel
theorem dL_law_504 : decode cL_law 504 = .ok (.iaload, 1) := by decide +kernel
theorem dL_law_505 : decode cL_law 505 = .ok (.invokevirtual 67, 3) := by decide +kernel
theorem dL_law_508 : decode cL_law 508 = .ok (.if_icmp .eq 553, 3) := by decide +kernel
theorem dL_law_511 : decode cL_law 511 = .ok (.iconst 0, 1) := by decide +kernel
theorem dL_law_512 : decode cL_law 512 = .ok (.ireturn, 1) := by decide +kernel
theorem dL_law_513 : decode cL_law 513 = .ok (.aload_n 1, 1) := by decide +kernel
theorem dL_law_514 : decode cL_law 514 = .ok (.aload_n 0, 1) := by decide +kernel
theorem dL_law_515 : decode cL_law 515 = .ok (.iload_n 3, 1) := by decide +kernel
theorem dL_law_516 : decode cL_law 516 = .ok (.iconst 1, 1) := by decide +kernel
theorem dL_law_517 : decode cL_law 517 = .ok (.iadd, 1) := by decide +kernel
theorem dL_law_518 : decode cL_law 518 = .ok (.iaload, 1) := by decide +kernel
theorem dL_law_519 : decode cL_law 519 = .ok (.aload_n 0, 1) := by decide +kernel
theorem dL_law_520 : decode cL_law 520 = .ok (.iload_n 3, 1) := by decide +kernel
theorem dL_law_521 : decode cL_law 521 = .ok (.iconst 2, 1) := by decide +kernel
theorem dL_law_522 : decode cL_law 522 = .ok (.iadd, 1) := by decide +kernel
theorem dL_law_523 : decode cL_law 523 = .ok (.iaload, 1) := by decide +kernel
theorem dL_law_524 : decode cL_law 524 = .ok (.invokevirtual 68, 3) := by decide +kernel
theorem dL_law_527 : decode cL_law 527 = .ok (.aload_n 2, 1) := by decide +kernel
theorem dL_law_528 : decode cL_law 528 = .ok (.aload_n 0, 1) := by decide +kernel
theorem dL_law_529 : decode cL_law 529 = .ok (.iload_n 3, 1) := by decide +kernel
theorem dL_law_530 : decode cL_law 530 = .ok (.iconst 1, 1) := by decide +kernel
theorem dL_law_531 : decode cL_law 531 = .ok (.iadd, 1) := by decide +kernel
theorem dL_law_532 : decode cL_law 532 = .ok (.iaload, 1) := by decide +kernel
theorem dL_law_533 : decode cL_law 533 = .ok (.aload_n 0, 1) := by decide +kernel
theorem dL_law_534 : decode cL_law 534 = .ok (.iload_n 3, 1) := by decide +kernel
theorem dL_law_535 : decode cL_law 535 = .ok (.iconst 2, 1) := by decide +kernel
theorem dL_law_536 : decode cL_law 536 = .ok (.iadd, 1) := by decide +kernel
theorem dL_law_537 : decode cL_law 537 = .ok (.iaload, 1) := by decide +kernel
theorem dL_law_538 : decode cL_law 538 = .ok (.invokevirtual 71, 3) := by decide +kernel
theorem dL_law_541 : decode cL_law 541 = .ok (.if_icmp .eq 520, 3) := by decide +kernel
theorem dL_law_544 : decode cL_law 544 = .ok (.iconst 0, 1) := by decide +kernel
theorem dL_law_545 : decode cL_law 545 = .ok (.ireturn, 1) := by decide +kernel
theorem dL_law_546 : decode cL_law 546 = .ok (.aload_n 1, 1) := by decide +kernel
theorem dL_law_547 : decode cL_law 547 = .ok (.aload_n 0, 1) := by decide +kernel
theorem dL_law_548 : decode cL_law 548 = .ok (.iload_n 3, 1) := by decide +kernel
theorem dL_law_549 : decode cL_law 549 = .ok (.iconst 1, 1) := by decide +kernel
theorem dL_law_550 : decode cL_law 550 = .ok (.iadd, 1) := by decide +kernel
theorem dL_law_551 : decode cL_law 551 = .ok (.iaload, 1) := by decide +kernel
theorem dL_law_552 : decode cL_law 552 = .ok (.invokevirtual 72, 3) := by decide +kernel
theorem dL_law_555 : decode cL_law 555 = .ok (.aload_n 2, 1) := by decide +kernel
theorem dL_law_556 : decode cL_law 556 = .ok (.aload_n 0, 1) := by decide +kernel
theorem dL_law_557 : decode cL_law 557 = .ok (.iload_n 3, 1) := by decide +kernel
theorem dL_law_558 : decode cL_law 558 = .ok (.iconst 1, 1) := by decide +kernel
theorem dL_law_559 : decode cL_law 559 = .ok (.iadd, 1) := by decide +kernel
theorem dL_law_560 : decode cL_law 560 = .ok (.iaload, 1) := by decide +kernel
theorem dL_law_561 : decode cL_law 561 = .ok (.invokevirtual 75, 3) := by decide +kernel
theorem dL_law_564 : decode cL_law 564 = .ok (.if_icmp .eq 497, 3) := by decide +kernel
theorem dL_law_567 : decode cL_law 567 = .ok (.iconst 0, 1) := by decide +kernel
theorem dL_law_568 : decode cL_law 568 = .ok (.ireturn, 1) := by decide +kernel
theorem dL_law_569 : decode cL_law 569 = .ok (.aload_n 1, 1) := by decide +kernel
theorem dL_law_570 : decode cL_law 570 = .ok (.aload_n 0, 1) := by decide +kernel
theorem dL_law_571 : decode cL_law 571 = .ok (.iload_n 3, 1) := by decide +kernel
theorem dL_law_572 : decode cL_law 572 = .ok (.iconst 1, 1) := by decide +kernel
theorem dL_law_573 : decode cL_law 573 = .ok (.iadd, 1) := by decide +kernel
theorem dL_law_574 : decode cL_law 574 = .ok (.iaload, 1) := by decide +kernel
theorem dL_law_575 : decode cL_law 575 = .ok (.aload_n 0, 1) := by decide +kernel
theorem dL_law_576 : decode cL_law 576 = .ok (.iload_n 3, 1) := by decide +kernel
theorem dL_law_577 : decode cL_law 577 = .ok (.iconst 2, 1) := by decide +kernel
theorem dL_law_578 : decode cL_law 578 = .ok (.iadd, 1) := by decide +kernel
theorem dL_law_579 : decode cL_law 579 = .ok (.iaload, 1) := by decide +kernel
theorem dL_law_580 : decode cL_law 580 = .ok (.aload_n 0, 1) := by decide +kernel
theorem dL_law_581 : decode cL_law 581 = .ok (.iload_n 3, 1) := by decide +kernel
theorem dL_law_582 : decode cL_law 582 = .ok (.iconst 3, 1) := by decide +kernel
theorem dL_law_583 : decode cL_law 583 = .ok (.iadd, 1) := by decide +kernel
theorem dL_law_584 : decode cL_law 584 = .ok (.iaload, 1) := by decide +kernel
theorem dL_law_585 : decode cL_law 585 = .ok (.invokevirtual 76, 3) := by decide +kernel
theorem dL_law_588 : decode cL_law 588 = .ok (.aload_n 2, 1) := by decide +kernel
theorem dL_law_589 : decode cL_law 589 = .ok (.aload_n 0, 1) := by decide +kernel
theorem dL_law_590 : decode cL_law 590 = .ok (.iload_n 3, 1) := by decide +kernel
theorem dL_law_591 : decode cL_law 591 = .ok (.iconst 1, 1) := by decide +kernel
theorem dL_law_592 : decode cL_law 592 = .ok (.iadd, 1) := by decide +kernel
theorem dL_law_593 : decode cL_law 593 = .ok (.iaload, 1) := by decide +kernel
theorem dL_law_594 : decode cL_law 594 = .ok (.aload_n 0, 1) := by decide +kernel
theorem dL_law_595 : decode cL_law 595 = .ok (.iload_n 3, 1) := by decide +kernel
theorem dL_law_596 : decode cL_law 596 = .ok (.iconst 2, 1) := by decide +kernel
theorem dL_law_597 : decode cL_law 597 = .ok (.iadd, 1) := by decide +kernel
theorem dL_law_598 : decode cL_law 598 = .ok (.iaload, 1) := by decide +kernel
theorem dL_law_599 : decode cL_law 599 = .ok (.aload_n 0, 1) := by decide +kernel
theorem dL_law_600 : decode cL_law 600 = .ok (.iload_n 3, 1) := by decide +kernel
theorem dL_law_601 : decode cL_law 601 = .ok (.iconst 3, 1) := by decide +kernel
theorem dL_law_602 : decode cL_law 602 = .ok (.iadd, 1) := by decide +kernel
theorem dL_law_603 : decode cL_law 603 = .ok (.iaload, 1) := by decide +kernel
theorem dL_law_604 : decode cL_law 604 = .ok (.invokevirtual 80, 3) := by decide +kernel
theorem dL_law_607 : decode cL_law 607 = .ok (.if_icmp .eq 454, 3) := by decide +kernel
theorem dL_law_610 : decode cL_law 610 = .ok (.iconst 0, 1) := by decide +kernel
theorem dL_law_611 : decode cL_law 611 = .ok (.ireturn, 1) := by decide +kernel
theorem dL_law_612 : decode cL_law 612 = .ok (.aload_n 1, 1) := by decide +kernel
theorem dL_law_613 : decode cL_law 613 = .ok (.aload_n 0, 1) := by decide +kernel
theorem dL_law_614 : decode cL_law 614 = .ok (.iload_n 3, 1) := by decide +kernel
theorem dL_law_615 : decode cL_law 615 = .ok (.iconst 1, 1) := by decide +kernel
theorem dL_law_616 : decode cL_law 616 = .ok (.iadd, 1) := by decide +kernel
theorem dL_law_617 : decode cL_law 617 = .ok (.iaload, 1) := by decide +kernel
theorem dL_law_618 : decode cL_law 618 = .ok (.invokevirtual 81, 3) := by decide +kernel
theorem dL_law_621 : decode cL_law 621 = .ok (.aload_n 2, 1) := by decide +kernel
theorem dL_law_622 : decode cL_law 622 = .ok (.aload_n 0, 1) := by decide +kernel
theorem dL_law_623 : decode cL_law 623 = .ok (.iload_n 3, 1) := by decide +kernel
theorem dL_law_624 : decode cL_law 624 = .ok (.iconst 1, 1) := by decide +kernel
theorem dL_law_625 : decode cL_law 625 = .ok (.iadd, 1) := by decide +kernel
theorem dL_law_626 : decode cL_law 626 = .ok (.iaload, 1) := by decide +kernel
theorem dL_law_627 : decode cL_law 627 = .ok (.invokevirtual 84, 3) := by decide +kernel
theorem dL_law_630 : decode cL_law 630 = .ok (.if_icmp .eq 431, 3) := by decide +kernel
theorem dL_law_633 : decode cL_law 633 = .ok (.iconst 0, 1) := by decide +kernel
theorem dL_law_634 : decode cL_law 634 = .ok (.ireturn, 1) := by decide +kernel
theorem dL_law_635 : decode cL_law 635 = .ok (.aload_n 1, 1) := by decide +kernel
theorem dL_law_636 : decode cL_law 636 = .ok (.invokevirtual 85, 3) := by decide +kernel
theorem dL_law_639 : decode cL_law 639 = .ok (.aload_n 2, 1) := by decide +kernel
theorem dL_law_640 : decode cL_law 640 = .ok (.invokevirtual 88, 3) := by decide +kernel
theorem dL_law_643 : decode cL_law 643 = .ok (.if_icmp .eq 418, 3) := by decide +kernel
theorem dL_law_646 : decode cL_law 646 = .ok (.iconst 0, 1) := by decide +kernel
theorem dL_law_647 : decode cL_law 647 = .ok (.ireturn, 1) := by decide +kernel
theorem dL_law_648 : decode cL_law 648 = .ok (.aload_n 1, 1) := by decide +kernel
theorem dL_law_649 : decode cL_law 649 = .ok (.aload_n 0, 1) := by decide +kernel
theorem dL_law_650 : decode cL_law 650 = .ok (.iload_n 3, 1) := by decide +kernel
theorem dL_law_651 : decode cL_law 651 = .ok (.iconst 1, 1) := by decide +kernel
theorem dL_law_652 : decode cL_law 652 = .ok (.iadd, 1) := by decide +kernel
theorem dL_law_653 : decode cL_law 653 = .ok (.iaload, 1) := by decide +kernel
theorem dL_law_654 : decode cL_law 654 = .ok (.invokevirtual 89, 3) := by decide +kernel
theorem dL_law_657 : decode cL_law 657 = .ok (.aload_n 2, 1) := by decide +kernel
theorem dL_law_658 : decode cL_law 658 = .ok (.aload_n 0, 1) := by decide +kernel
theorem dL_law_659 : decode cL_law 659 = .ok (.iload_n 3, 1) := by decide +kernel
theorem dL_law_660 : decode cL_law 660 = .ok (.iconst 1, 1) := by decide +kernel
theorem dL_law_661 : decode cL_law 661 = .ok (.iadd, 1) := by decide +kernel
theorem dL_law_662 : decode cL_law 662 = .ok (.iaload, 1) := by decide +kernel
theorem dL_law_663 : decode cL_law 663 = .ok (.invokevirtual 92, 3) := by decide +kernel
theorem dL_law_666 : decode cL_law 666 = .ok (.if_icmp .eq 395, 3) := by decide +kernel
theorem dL_law_669 : decode cL_law 669 = .ok (.iconst 0, 1) := by decide +kernel
theorem dL_law_670 : decode cL_law 670 = .ok (.ireturn, 1) := by decide +kernel
theorem dL_law_671 : decode cL_law 671 = .ok (.aload_n 1, 1) := by decide +kernel
theorem dL_law_672 : decode cL_law 672 = .ok (.invokevirtual 93, 3) := by decide +kernel
theorem dL_law_675 : decode cL_law 675 = .ok (.aload_n 2, 1) := by decide +kernel
theorem dL_law_676 : decode cL_law 676 = .ok (.invokevirtual 96, 3) := by decide +kernel
theorem dL_law_679 : decode cL_law 679 = .ok (.if_icmp .eq 382, 3) := by decide +kernel
theorem dL_law_682 : decode cL_law 682 = .ok (.iconst 0, 1) := by decide +kernel
theorem dL_law_683 : decode cL_law 683 = .ok (.ireturn, 1) := by decide +kernel
theorem dL_law_684 : decode cL_law 684 = .ok (.aload_n 1, 1) := by decide +kernel
theorem dL_law_685 : decode cL_law 685 = .ok (.aload_n 0, 1) := by decide +kernel
theorem dL_law_686 : decode cL_law 686 = .ok (.iload_n 3, 1) := by decide +kernel
theorem dL_law_687 : decode cL_law 687 = .ok (.iconst 1, 1) := by decide +kernel
theorem dL_law_688 : decode cL_law 688 = .ok (.iadd, 1) := by decide +kernel
theorem dL_law_689 : decode cL_law 689 = .ok (.iaload, 1) := by decide +kernel
theorem dL_law_690 : decode cL_law 690 = .ok (.invokevirtual 97, 3) := by decide +kernel
theorem dL_law_693 : decode cL_law 693 = .ok (.aload_n 2, 1) := by decide +kernel
theorem dL_law_694 : decode cL_law 694 = .ok (.aload_n 0, 1) := by decide +kernel
theorem dL_law_695 : decode cL_law 695 = .ok (.iload_n 3, 1) := by decide +kernel
theorem dL_law_696 : decode cL_law 696 = .ok (.iconst 1, 1) := by decide +kernel
theorem dL_law_697 : decode cL_law 697 = .ok (.iadd, 1) := by decide +kernel
theorem dL_law_698 : decode cL_law 698 = .ok (.iaload, 1) := by decide +kernel
theorem dL_law_699 : decode cL_law 699 = .ok (.invokevirtual 100, 3) := by decide +kernel
theorem dL_law_702 : decode cL_law 702 = .ok (.if_icmp .eq 359, 3) := by decide +kernel
theorem dL_law_705 : decode cL_law 705 = .ok (.iconst 0, 1) := by decide +kernel
theorem dL_law_706 : decode cL_law 706 = .ok (.ireturn, 1) := by decide +kernel
theorem dL_law_707 : decode cL_law 707 = .ok (.aload_n 1, 1) := by decide +kernel
theorem dL_law_708 : decode cL_law 708 = .ok (.invokevirtual 101, 3) := by decide +kernel
theorem dL_law_711 : decode cL_law 711 = .ok (.aload_n 2, 1) := by decide +kernel
theorem dL_law_712 : decode cL_law 712 = .ok (.invokevirtual 104, 3) := by decide +kernel
theorem dL_law_715 : decode cL_law 715 = .ok (.if_icmp .eq 346, 3) := by decide +kernel
theorem dL_law_718 : decode cL_law 718 = .ok (.iconst 0, 1) := by decide +kernel
theorem dL_law_719 : decode cL_law 719 = .ok (.ireturn, 1) := by decide +kernel
theorem dL_law_720 : decode cL_law 720 = .ok (.aload_n 1, 1) := by decide +kernel
theorem dL_law_721 : decode cL_law 721 = .ok (.invokevirtual 105, 3) := by decide +kernel
theorem dL_law_724 : decode cL_law 724 = .ok (.aload_n 2, 1) := by decide +kernel
theorem dL_law_725 : decode cL_law 725 = .ok (.invokevirtual 108, 3) := by decide +kernel
theorem dL_law_728 : decode cL_law 728 = .ok (.if_icmp .eq 333, 3) := by decide +kernel
theorem dL_law_731 : decode cL_law 731 = .ok (.iconst 0, 1) := by decide +kernel
theorem dL_law_732 : decode cL_law 732 = .ok (.ireturn, 1) := by decide +kernel
theorem dL_law_733 : decode cL_law 733 = .ok (.aload_n 1, 1) := by decide +kernel
theorem dL_law_734 : decode cL_law 734 = .ok (.aload_n 0, 1) := by decide +kernel
theorem dL_law_735 : decode cL_law 735 = .ok (.iload_n 3, 1) := by decide +kernel
theorem dL_law_736 : decode cL_law 736 = .ok (.iconst 1, 1) := by decide +kernel
theorem dL_law_737 : decode cL_law 737 = .ok (.iadd, 1) := by decide +kernel
theorem dL_law_738 : decode cL_law 738 = .ok (.iaload, 1) := by decide +kernel
theorem dL_law_739 : decode cL_law 739 = .ok (.aload_n 0, 1) := by decide +kernel
theorem dL_law_740 : decode cL_law 740 = .ok (.iload_n 3, 1) := by decide +kernel
theorem dL_law_741 : decode cL_law 741 = .ok (.iconst 2, 1) := by decide +kernel
theorem dL_law_742 : decode cL_law 742 = .ok (.iadd, 1) := by decide +kernel
theorem dL_law_743 : decode cL_law 743 = .ok (.iaload, 1) := by decide +kernel
theorem dL_law_744 : decode cL_law 744 = .ok (.aload_n 0, 1) := by decide +kernel
theorem dL_law_745 : decode cL_law 745 = .ok (.iload_n 3, 1) := by decide +kernel
theorem dL_law_746 : decode cL_law 746 = .ok (.iconst 3, 1) := by decide +kernel
theorem dL_law_747 : decode cL_law 747 = .ok (.iadd, 1) := by decide +kernel
theorem dL_law_748 : decode cL_law 748 = .ok (.iaload, 1) := by decide +kernel
theorem dL_law_749 : decode cL_law 749 = .ok (.aload_n 0, 1) := by decide +kernel
theorem dL_law_750 : decode cL_law 750 = .ok (.iload_n 3, 1) := by decide +kernel
theorem dL_law_751 : decode cL_law 751 = .ok (.iconst 4, 1) := by decide +kernel
theorem dL_law_752 : decode cL_law 752 = .ok (.iadd, 1) := by decide +kernel
theorem dL_law_753 : decode cL_law 753 = .ok (.iaload, 1) := by decide +kernel
theorem dL_law_754 : decode cL_law 754 = .ok (.aload_n 0, 1) := by decide +kernel
theorem dL_law_755 : decode cL_law 755 = .ok (.iload_n 3, 1) := by decide +kernel
theorem dL_law_756 : decode cL_law 756 = .ok (.iconst 5, 1) := by decide +kernel
theorem dL_law_757 : decode cL_law 757 = .ok (.iadd, 1) := by decide +kernel
theorem dL_law_758 : decode cL_law 758 = .ok (.iaload, 1) := by decide +kernel
theorem dL_law_759 : decode cL_law 759 = .ok (.invokevirtual 109, 3) := by decide +kernel
theorem dL_law_762 : decode cL_law 762 = .ok (.aload_n 2, 1) := by decide +kernel
theorem dL_law_763 : decode cL_law 763 = .ok (.aload_n 0, 1) := by decide +kernel
theorem dL_law_764 : decode cL_law 764 = .ok (.iload_n 3, 1) := by decide +kernel
theorem dL_law_765 : decode cL_law 765 = .ok (.iconst 1, 1) := by decide +kernel
theorem dL_law_766 : decode cL_law 766 = .ok (.iadd, 1) := by decide +kernel
theorem dL_law_767 : decode cL_law 767 = .ok (.iaload, 1) := by decide +kernel
theorem dL_law_768 : decode cL_law 768 = .ok (.aload_n 0, 1) := by decide +kernel
theorem dL_law_769 : decode cL_law 769 = .ok (.iload_n 3, 1) := by decide +kernel
theorem dL_law_770 : decode cL_law 770 = .ok (.iconst 2, 1) := by decide +kernel
theorem dL_law_771 : decode cL_law 771 = .ok (.iadd, 1) := by decide +kernel
theorem dL_law_772 : decode cL_law 772 = .ok (.iaload, 1) := by decide +kernel
theorem dL_law_773 : decode cL_law 773 = .ok (.aload_n 0, 1) := by decide +kernel
theorem dL_law_774 : decode cL_law 774 = .ok (.iload_n 3, 1) := by decide +kernel
theorem dL_law_775 : decode cL_law 775 = .ok (.iconst 3, 1) := by decide +kernel
theorem dL_law_776 : decode cL_law 776 = .ok (.iadd, 1) := by decide +kernel
theorem dL_law_777 : decode cL_law 777 = .ok (.iaload, 1) := by decide +kernel
theorem dL_law_778 : decode cL_law 778 = .ok (.aload_n 0, 1) := by decide +kernel
theorem dL_law_779 : decode cL_law 779 = .ok (.iload_n 3, 1) := by decide +kernel
theorem dL_law_780 : decode cL_law 780 = .ok (.iconst 4, 1) := by decide +kernel
theorem dL_law_781 : decode cL_law 781 = .ok (.iadd, 1) := by decide +kernel
theorem dL_law_782 : decode cL_law 782 = .ok (.iaload, 1) := by decide +kernel
theorem dL_law_783 : decode cL_law 783 = .ok (.aload_n 0, 1) := by decide +kernel
theorem dL_law_784 : decode cL_law 784 = .ok (.iload_n 3, 1) := by decide +kernel
theorem dL_law_785 : decode cL_law 785 = .ok (.iconst 5, 1) := by decide +kernel
theorem dL_law_786 : decode cL_law 786 = .ok (.iadd, 1) := by decide +kernel
theorem dL_law_787 : decode cL_law 787 = .ok (.iaload, 1) := by decide +kernel
theorem dL_law_788 : decode cL_law 788 = .ok (.invokevirtual 113, 3) := by decide +kernel
theorem dL_law_791 : decode cL_law 791 = .ok (.if_icmp .eq 270, 3) := by decide +kernel
theorem dL_law_794 : decode cL_law 794 = .ok (.iconst 0, 1) := by decide +kernel
theorem dL_law_795 : decode cL_law 795 = .ok (.ireturn, 1) := by decide +kernel
theorem dL_law_796 : decode cL_law 796 = .ok (.aload_n 1, 1) := by decide +kernel
theorem dL_law_797 : decode cL_law 797 = .ok (.aload_n 0, 1) := by decide +kernel
theorem dL_law_798 : decode cL_law 798 = .ok (.iload_n 3, 1) := by decide +kernel
theorem dL_law_799 : decode cL_law 799 = .ok (.iconst 1, 1) := by decide +kernel
theorem dL_law_800 : decode cL_law 800 = .ok (.iadd, 1) := by decide +kernel
theorem dL_law_801 : decode cL_law 801 = .ok (.iaload, 1) := by decide +kernel
theorem dL_law_802 : decode cL_law 802 = .ok (.aload_n 0, 1) := by decide +kernel
theorem dL_law_803 : decode cL_law 803 = .ok (.iload_n 3, 1) := by decide +kernel
theorem dL_law_804 : decode cL_law 804 = .ok (.iconst 2, 1) := by decide +kernel
theorem dL_law_805 : decode cL_law 805 = .ok (.iadd, 1) := by decide +kernel
theorem dL_law_806 : decode cL_law 806 = .ok (.iaload, 1) := by decide +kernel
theorem dL_law_807 : decode cL_law 807 = .ok (.aload_n 0, 1) := by decide +kernel
theorem dL_law_808 : decode cL_law 808 = .ok (.iload_n 3, 1) := by decide +kernel
theorem dL_law_809 : decode cL_law 809 = .ok (.iconst 3, 1) := by decide +kernel
theorem dL_law_810 : decode cL_law 810 = .ok (.iadd, 1) := by decide +kernel
theorem dL_law_811 : decode cL_law 811 = .ok (.iaload, 1) := by decide +kernel
theorem dL_law_812 : decode cL_law 812 = .ok (.aload_n 0, 1) := by decide +kernel
theorem dL_law_813 : decode cL_law 813 = .ok (.iload_n 3, 1) := by decide +kernel
theorem dL_law_814 : decode cL_law 814 = .ok (.iconst 4, 1) := by decide +kernel
theorem dL_law_815 : decode cL_law 815 = .ok (.iadd, 1) := by decide +kernel
theorem dL_law_816 : decode cL_law 816 = .ok (.iaload, 1) := by decide +kernel
theorem dL_law_817 : decode cL_law 817 = .ok (.invokevirtual 114, 3) := by decide +kernel
theorem dL_law_820 : decode cL_law 820 = .ok (.aload_n 2, 1) := by decide +kernel
theorem dL_law_821 : decode cL_law 821 = .ok (.aload_n 0, 1) := by decide +kernel
theorem dL_law_822 : decode cL_law 822 = .ok (.iload_n 3, 1) := by decide +kernel
theorem dL_law_823 : decode cL_law 823 = .ok (.iconst 1, 1) := by decide +kernel
theorem dL_law_824 : decode cL_law 824 = .ok (.iadd, 1) := by decide +kernel
theorem dL_law_825 : decode cL_law 825 = .ok (.iaload, 1) := by decide +kernel
theorem dL_law_826 : decode cL_law 826 = .ok (.aload_n 0, 1) := by decide +kernel
theorem dL_law_827 : decode cL_law 827 = .ok (.iload_n 3, 1) := by decide +kernel
theorem dL_law_828 : decode cL_law 828 = .ok (.iconst 2, 1) := by decide +kernel
theorem dL_law_829 : decode cL_law 829 = .ok (.iadd, 1) := by decide +kernel
theorem dL_law_830 : decode cL_law 830 = .ok (.iaload, 1) := by decide +kernel
theorem dL_law_831 : decode cL_law 831 = .ok (.aload_n 0, 1) := by decide +kernel
theorem dL_law_832 : decode cL_law 832 = .ok (.iload_n 3, 1) := by decide +kernel
theorem dL_law_833 : decode cL_law 833 = .ok (.iconst 3, 1) := by decide +kernel
theorem dL_law_834 : decode cL_law 834 = .ok (.iadd, 1) := by decide +kernel
theorem dL_law_835 : decode cL_law 835 = .ok (.iaload, 1) := by decide +kernel
theorem dL_law_836 : decode cL_law 836 = .ok (.aload_n 0, 1) := by decide +kernel
theorem dL_law_837 : decode cL_law 837 = .ok (.iload_n 3, 1) := by decide +kernel
theorem dL_law_838 : decode cL_law 838 = .ok (.iconst 4, 1) := by decide +kernel
theorem dL_law_839 : decode cL_law 839 = .ok (.iadd, 1) := by decide +kernel
theorem dL_law_840 : decode cL_law 840 = .ok (.iaload, 1) := by decide +kernel
theorem dL_law_841 : decode cL_law 841 = .ok (.invokevirtual 118, 3) := by decide +kernel
theorem dL_law_844 : decode cL_law 844 = .ok (.if_icmp .eq 217, 3) := by decide +kernel
theorem dL_law_847 : decode cL_law 847 = .ok (.iconst 0, 1) := by decide +kernel
theorem dL_law_848 : decode cL_law 848 = .ok (.ireturn, 1) := by decide +kernel
theorem dL_law_849 : decode cL_law 849 = .ok (.aload_n 1, 1) := by decide +kernel
theorem dL_law_850 : decode cL_law 850 = .ok (.aload_n 0, 1) := by decide +kernel
theorem dL_law_851 : decode cL_law 851 = .ok (.iload_n 3, 1) := by decide +kernel
theorem dL_law_852 : decode cL_law 852 = .ok (.iconst 1, 1) := by decide +kernel
theorem dL_law_853 : decode cL_law 853 = .ok (.iadd, 1) := by decide +kernel
theorem dL_law_854 : decode cL_law 854 = .ok (.iaload, 1) := by decide +kernel
theorem dL_law_855 : decode cL_law 855 = .ok (.aload_n 0, 1) := by decide +kernel
theorem dL_law_856 : decode cL_law 856 = .ok (.iload_n 3, 1) := by decide +kernel
theorem dL_law_857 : decode cL_law 857 = .ok (.iconst 2, 1) := by decide +kernel
theorem dL_law_858 : decode cL_law 858 = .ok (.iadd, 1) := by decide +kernel
theorem dL_law_859 : decode cL_law 859 = .ok (.iaload, 1) := by decide +kernel
theorem dL_law_860 : decode cL_law 860 = .ok (.aload_n 0, 1) := by decide +kernel
theorem dL_law_861 : decode cL_law 861 = .ok (.iload_n 3, 1) := by decide +kernel
theorem dL_law_862 : decode cL_law 862 = .ok (.iconst 3, 1) := by decide +kernel
theorem dL_law_863 : decode cL_law 863 = .ok (.iadd, 1) := by decide +kernel
theorem dL_law_864 : decode cL_law 864 = .ok (.iaload, 1) := by decide +kernel
theorem dL_law_865 : decode cL_law 865 = .ok (.invokevirtual 119, 3) := by decide +kernel
theorem dL_law_868 : decode cL_law 868 = .ok (.aload_n 2, 1) := by decide +kernel
theorem dL_law_869 : decode cL_law 869 = .ok (.aload_n 0, 1) := by decide +kernel
theorem dL_law_870 : decode cL_law 870 = .ok (.iload_n 3, 1) := by decide +kernel
theorem dL_law_871 : decode cL_law 871 = .ok (.iconst 1, 1) := by decide +kernel
theorem dL_law_872 : decode cL_law 872 = .ok (.iadd, 1) := by decide +kernel
theorem dL_law_873 : decode cL_law 873 = .ok (.iaload, 1) := by decide +kernel
theorem dL_law_874 : decode cL_law 874 = .ok (.aload_n 0, 1) := by decide +kernel
theorem dL_law_875 : decode cL_law 875 = .ok (.iload_n 3, 1) := by decide +kernel
theorem dL_law_876 : decode cL_law 876 = .ok (.iconst 2, 1) := by decide +kernel
theorem dL_law_877 : decode cL_law 877 = .ok (.iadd, 1) := by decide +kernel
theorem dL_law_878 : decode cL_law 878 = .ok (.iaload, 1) := by decide +kernel
theorem dL_law_879 : decode cL_law 879 = .ok (.aload_n 0, 1) := by decide +kernel
theorem dL_law_880 : decode cL_law 880 = .ok (.iload_n 3, 1) := by decide +kernel
theorem dL_law_881 : decode cL_law 881 = .ok (.iconst 3, 1) := by decide +kernel
theorem dL_law_882 : decode cL_law 882 = .ok (.iadd, 1) := by decide +kernel
theorem dL_law_883 : decode cL_law 883 = .ok (.iaload, 1) := by decide +kernel
theorem dL_law_884 : decode cL_law 884 = .ok (.invokevirtual 122, 3) := by decide +kernel
theorem dL_law_887 : decode cL_law 887 = .ok (.if_icmp .eq 174, 3) := by decide +kernel
theorem dL_law_890 : decode cL_law 890 = .ok (.iconst 0, 1) := by decide +kernel
theorem dL_law_891 : decode cL_law 891 = .ok (.ireturn, 1) := by decide +kernel
theorem dL_law_892 : decode cL_law 892 = .ok (.aload_n 1, 1) := by decide +kernel
theorem dL_law_893 : decode cL_law 893 = .ok (.aload_n 0, 1) := by decide +kernel
theorem dL_law_894 : decode cL_law 894 = .ok (.iload_n 3, 1) := by decide +kernel
theorem dL_law_895 : decode cL_law 895 = .ok (.iconst 1, 1) := by decide +kernel
theorem dL_law_896 : decode cL_law 896 = .ok (.iadd, 1) := by decide +kernel
theorem dL_law_897 : decode cL_law 897 = .ok (.iaload, 1) := by decide +kernel
theorem dL_law_898 : decode cL_law 898 = .ok (.invokevirtual 123, 3) := by decide +kernel
theorem dL_law_901 : decode cL_law 901 = .ok (.aload_n 2, 1) := by decide +kernel
theorem dL_law_902 : decode cL_law 902 = .ok (.aload_n 0, 1) := by decide +kernel
theorem dL_law_903 : decode cL_law 903 = .ok (.iload_n 3, 1) := by decide +kernel
theorem dL_law_904 : decode cL_law 904 = .ok (.iconst 1, 1) := by decide +kernel
theorem dL_law_905 : decode cL_law 905 = .ok (.iadd, 1) := by decide +kernel
theorem dL_law_906 : decode cL_law 906 = .ok (.iaload, 1) := by decide +kernel
theorem dL_law_907 : decode cL_law 907 = .ok (.invokevirtual 126, 3) := by decide +kernel
theorem dL_law_910 : decode cL_law 910 = .ok (.if_icmp .eq 151, 3) := by decide +kernel
theorem dL_law_913 : decode cL_law 913 = .ok (.iconst 0, 1) := by decide +kernel
theorem dL_law_914 : decode cL_law 914 = .ok (.ireturn, 1) := by decide +kernel
theorem dL_law_915 : decode cL_law 915 = .ok (.aload_n 1, 1) := by decide +kernel
theorem dL_law_916 : decode cL_law 916 = .ok (.aload_n 0, 1) := by decide +kernel
theorem dL_law_917 : decode cL_law 917 = .ok (.iload_n 3, 1) := by decide +kernel
theorem dL_law_918 : decode cL_law 918 = .ok (.iconst 1, 1) := by decide +kernel
theorem dL_law_919 : decode cL_law 919 = .ok (.iadd, 1) := by decide +kernel
theorem dL_law_920 : decode cL_law 920 = .ok (.iaload, 1) := by decide +kernel
theorem dL_law_921 : decode cL_law 921 = .ok (.aload_n 0, 1) := by decide +kernel
theorem dL_law_922 : decode cL_law 922 = .ok (.iload_n 3, 1) := by decide +kernel
theorem dL_law_923 : decode cL_law 923 = .ok (.iconst 2, 1) := by decide +kernel
theorem dL_law_924 : decode cL_law 924 = .ok (.iadd, 1) := by decide +kernel
theorem dL_law_925 : decode cL_law 925 = .ok (.iaload, 1) := by decide +kernel
theorem dL_law_926 : decode cL_law 926 = .ok (.aload_n 0, 1) := by decide +kernel
theorem dL_law_927 : decode cL_law 927 = .ok (.iload_n 3, 1) := by decide +kernel
theorem dL_law_928 : decode cL_law 928 = .ok (.iconst 3, 1) := by decide +kernel
theorem dL_law_929 : decode cL_law 929 = .ok (.iadd, 1) := by decide +kernel
theorem dL_law_930 : decode cL_law 930 = .ok (.iaload, 1) := by decide +kernel
theorem dL_law_931 : decode cL_law 931 = .ok (.aload_n 0, 1) := by decide +kernel
theorem dL_law_932 : decode cL_law 932 = .ok (.iload_n 3, 1) := by decide +kernel
theorem dL_law_933 : decode cL_law 933 = .ok (.iconst 4, 1) := by decide +kernel
theorem dL_law_934 : decode cL_law 934 = .ok (.iadd, 1) := by decide +kernel
theorem dL_law_935 : decode cL_law 935 = .ok (.iaload, 1) := by decide +kernel
theorem dL_law_936 : decode cL_law 936 = .ok (.i2l, 1) := by decide +kernel
theorem dL_law_937 : decode cL_law 937 = .ok (.bipush 32, 2) := by decide +kernel
theorem dL_law_939 : decode cL_law 939 = .ok (.lshl, 1) := by decide +kernel
theorem dL_law_940 : decode cL_law 940 = .ok (.aload_n 0, 1) := by decide +kernel
theorem dL_law_941 : decode cL_law 941 = .ok (.iload_n 3, 1) := by decide +kernel
theorem dL_law_942 : decode cL_law 942 = .ok (.iconst 5, 1) := by decide +kernel
theorem dL_law_943 : decode cL_law 943 = .ok (.iadd, 1) := by decide +kernel
theorem dL_law_944 : decode cL_law 944 = .ok (.iaload, 1) := by decide +kernel
theorem dL_law_945 : decode cL_law 945 = .ok (.i2l, 1) := by decide +kernel
theorem dL_law_946 : decode cL_law 946 = .ok (.ldc2_w 127, 3) := by decide +kernel
theorem dL_law_949 : decode cL_law 949 = .ok (.land, 1) := by decide +kernel
theorem dL_law_950 : decode cL_law 950 = .ok (.lor, 1) := by decide +kernel
theorem dL_law_951 : decode cL_law 951 = .ok (.invokevirtual 129, 3) := by decide +kernel
theorem dL_law_954 : decode cL_law 954 = .ok (.aload_n 2, 1) := by decide +kernel
theorem dL_law_955 : decode cL_law 955 = .ok (.aload_n 0, 1) := by decide +kernel
theorem dL_law_956 : decode cL_law 956 = .ok (.iload_n 3, 1) := by decide +kernel
theorem dL_law_957 : decode cL_law 957 = .ok (.iconst 1, 1) := by decide +kernel
theorem dL_law_958 : decode cL_law 958 = .ok (.iadd, 1) := by decide +kernel
theorem dL_law_959 : decode cL_law 959 = .ok (.iaload, 1) := by decide +kernel
theorem dL_law_960 : decode cL_law 960 = .ok (.aload_n 0, 1) := by decide +kernel
theorem dL_law_961 : decode cL_law 961 = .ok (.iload_n 3, 1) := by decide +kernel
theorem dL_law_962 : decode cL_law 962 = .ok (.iconst 2, 1) := by decide +kernel
theorem dL_law_963 : decode cL_law 963 = .ok (.iadd, 1) := by decide +kernel
theorem dL_law_964 : decode cL_law 964 = .ok (.iaload, 1) := by decide +kernel
theorem dL_law_965 : decode cL_law 965 = .ok (.aload_n 0, 1) := by decide +kernel
theorem dL_law_966 : decode cL_law 966 = .ok (.iload_n 3, 1) := by decide +kernel
theorem dL_law_967 : decode cL_law 967 = .ok (.iconst 3, 1) := by decide +kernel
theorem dL_law_968 : decode cL_law 968 = .ok (.iadd, 1) := by decide +kernel
theorem dL_law_969 : decode cL_law 969 = .ok (.iaload, 1) := by decide +kernel
theorem dL_law_970 : decode cL_law 970 = .ok (.aload_n 0, 1) := by decide +kernel
theorem dL_law_971 : decode cL_law 971 = .ok (.iload_n 3, 1) := by decide +kernel
theorem dL_law_972 : decode cL_law 972 = .ok (.iconst 4, 1) := by decide +kernel
theorem dL_law_973 : decode cL_law 973 = .ok (.iadd, 1) := by decide +kernel
theorem dL_law_974 : decode cL_law 974 = .ok (.iaload, 1) := by decide +kernel
theorem dL_law_975 : decode cL_law 975 = .ok (.i2l, 1) := by decide +kernel
theorem dL_law_976 : decode cL_law 976 = .ok (.bipush 32, 2) := by decide +kernel
theorem dL_law_978 : decode cL_law 978 = .ok (.lshl, 1) := by decide +kernel
theorem dL_law_979 : decode cL_law 979 = .ok (.aload_n 0, 1) := by decide +kernel
theorem dL_law_980 : decode cL_law 980 = .ok (.iload_n 3, 1) := by decide +kernel
theorem dL_law_981 : decode cL_law 981 = .ok (.iconst 5, 1) := by decide +kernel
theorem dL_law_982 : decode cL_law 982 = .ok (.iadd, 1) := by decide +kernel
theorem dL_law_983 : decode cL_law 983 = .ok (.iaload, 1) := by decide +kernel
theorem dL_law_984 : decode cL_law 984 = .ok (.i2l, 1) := by decide +kernel
theorem dL_law_985 : decode cL_law 985 = .ok (.ldc2_w 127, 3) := by decide +kernel
theorem dL_law_988 : decode cL_law 988 = .ok (.land, 1) := by decide +kernel
theorem dL_law_989 : decode cL_law 989 = .ok (.lor, 1) := by decide +kernel
theorem dL_law_990 : decode cL_law 990 = .ok (.invokevirtual 133, 3) := by decide +kernel
theorem dL_law_993 : decode cL_law 993 = .ok (.if_icmp .eq 68, 3) := by decide +kernel
theorem dL_law_996 : decode cL_law 996 = .ok (.iconst 0, 1) := by decide +kernel
theorem dL_law_997 : decode cL_law 997 = .ok (.ireturn, 1) := by decide +kernel
theorem dL_law_998 : decode cL_law 998 = .ok (.aload_n 1, 1) := by decide +kernel
theorem dL_law_999 : decode cL_law 999 = .ok (.aload_n 0, 1) := by decide +kernel
theorem dL_law_1000 : decode cL_law 1000 = .ok (.iload_n 3, 1) := by decide +kernel
theorem dL_law_1001 : decode cL_law 1001 = .ok (.iconst 1, 1) := by decide +kernel
theorem dL_law_1002 : decode cL_law 1002 = .ok (.iadd, 1) := by decide +kernel
theorem dL_law_1003 : decode cL_law 1003 = .ok (.iaload, 1) := by decide +kernel
theorem dL_law_1004 : decode cL_law 1004 = .ok (.aload_n 0, 1) := by decide +kernel
theorem dL_law_1005 : decode cL_law 1005 = .ok (.iload_n 3, 1) := by decide +kernel
theorem dL_law_1006 : decode cL_law 1006 = .ok (.iconst 2, 1) := by decide +kernel
theorem dL_law_1007 : decode cL_law 1007 = .ok (.iadd, 1) := by decide +kernel
theorem dL_law_1008 : decode cL_law 1008 = .ok (.iaload, 1) := by decide +kernel
theorem dL_law_1009 : decode cL_law 1009 = .ok (.aload_n 0, 1) := by decide +kernel
theorem dL_law_1010 : decode cL_law 1010 = .ok (.iload_n 3, 1) := by decide +kernel
theorem dL_law_1011 : decode cL_law 1011 = .ok (.iconst 3, 1) := by decide +kernel
theorem dL_law_1012 : decode cL_law 1012 = .ok (.iadd, 1) := by decide +kernel
theorem dL_law_1013 : decode cL_law 1013 = .ok (.iaload, 1) := by decide +kernel
theorem dL_law_1014 : decode cL_law 1014 = .ok (.aload_n 0, 1) := by decide +kernel
theorem dL_law_1015 : decode cL_law 1015 = .ok (.iload_n 3, 1) := by decide +kernel
theorem dL_law_1016 : decode cL_law 1016 = .ok (.iconst 4, 1) := by decide +kernel
theorem dL_law_1017 : decode cL_law 1017 = .ok (.iadd, 1) := by decide +kernel
theorem dL_law_1018 : decode cL_law 1018 = .ok (.iaload, 1) := by decide +kernel
theorem dL_law_1019 : decode cL_law 1019 = .ok (.aload_n 0, 1) := by decide +kernel
theorem dL_law_1020 : decode cL_law 1020 = .ok (.iload_n 3, 1) := by decide +kernel
theorem dL_law_1021 : decode cL_law 1021 = .ok (.iconst 5, 1) := by decide +kernel
theorem dL_law_1022 : decode cL_law 1022 = .ok (.iadd, 1) := by decide +kernel
theorem dL_law_1023 : decode cL_law 1023 = .ok (.iaload, 1) := by decide +kernel
theorem dL_law_1024 : decode cL_law 1024 = .ok (.invokevirtual 134, 3) := by decide +kernel
theorem dL_law_1027 : decode cL_law 1027 = .ok (.aload_n 2, 1) := by decide +kernel
theorem dL_law_1028 : decode cL_law 1028 = .ok (.aload_n 0, 1) := by decide +kernel
theorem dL_law_1029 : decode cL_law 1029 = .ok (.iload_n 3, 1) := by decide +kernel
theorem dL_law_1030 : decode cL_law 1030 = .ok (.iconst 1, 1) := by decide +kernel
theorem dL_law_1031 : decode cL_law 1031 = .ok (.iadd, 1) := by decide +kernel
theorem dL_law_1032 : decode cL_law 1032 = .ok (.iaload, 1) := by decide +kernel
theorem dL_law_1033 : decode cL_law 1033 = .ok (.aload_n 0, 1) := by decide +kernel
theorem dL_law_1034 : decode cL_law 1034 = .ok (.iload_n 3, 1) := by decide +kernel
theorem dL_law_1035 : decode cL_law 1035 = .ok (.iconst 2, 1) := by decide +kernel
theorem dL_law_1036 : decode cL_law 1036 = .ok (.iadd, 1) := by decide +kernel
theorem dL_law_1037 : decode cL_law 1037 = .ok (.iaload, 1) := by decide +kernel
theorem dL_law_1038 : decode cL_law 1038 = .ok (.aload_n 0, 1) := by decide +kernel
theorem dL_law_1039 : decode cL_law 1039 = .ok (.iload_n 3, 1) := by decide +kernel
theorem dL_law_1040 : decode cL_law 1040 = .ok (.iconst 3, 1) := by decide +kernel
theorem dL_law_1041 : decode cL_law 1041 = .ok (.iadd, 1) := by decide +kernel
theorem dL_law_1042 : decode cL_law 1042 = .ok (.iaload, 1) := by decide +kernel
theorem dL_law_1043 : decode cL_law 1043 = .ok (.aload_n 0, 1) := by decide +kernel
theorem dL_law_1044 : decode cL_law 1044 = .ok (.iload_n 3, 1) := by decide +kernel
theorem dL_law_1045 : decode cL_law 1045 = .ok (.iconst 4, 1) := by decide +kernel
theorem dL_law_1046 : decode cL_law 1046 = .ok (.iadd, 1) := by decide +kernel
theorem dL_law_1047 : decode cL_law 1047 = .ok (.iaload, 1) := by decide +kernel
theorem dL_law_1048 : decode cL_law 1048 = .ok (.aload_n 0, 1) := by decide +kernel
theorem dL_law_1049 : decode cL_law 1049 = .ok (.iload_n 3, 1) := by decide +kernel
theorem dL_law_1050 : decode cL_law 1050 = .ok (.iconst 5, 1) := by decide +kernel
theorem dL_law_1051 : decode cL_law 1051 = .ok (.iadd, 1) := by decide +kernel
theorem dL_law_1052 : decode cL_law 1052 = .ok (.iaload, 1) := by decide +kernel
theorem dL_law_1053 : decode cL_law 1053 = .ok (.invokevirtual 137, 3) := by decide +kernel
theorem dL_law_1056 : decode cL_law 1056 = .ok (.if_icmp .eq 5, 3) := by decide +kernel
theorem dL_law_1059 : decode cL_law 1059 = .ok (.iconst 0, 1) := by decide +kernel
theorem dL_law_1060 : decode cL_law 1060 = .ok (.ireturn, 1) := by decide +kernel
theorem dL_law_1061 : decode cL_law 1061 = .ok (.iinc 3 6, 3) := by decide +kernel
theorem dL_law_1064 : decode cL_law 1064 = .ok (.goto (-1046), 3) := by decide +kernel
theorem dL_law_1067 : decode cL_law 1067 = .ok (.iconst 1, 1) := by decide +kernel
theorem dL_law_1068 : decode cL_law 1068 = .ok (.ireturn, 1) := by decide +kernel
end
section
/-! THE JUDGEMENT zR: the machine in a method's body, its heap told as a list of cells whose references are places in that list -/
abbrev zCx : Type := Program × Launch × Env × Room × State × MethodId × Array Value × List Frame × Method × Code × va_G × (Nat → Prop) × Heap × (State → Prop)
def zcv (ι : Nat → Nat) : Value → Value
  | .ref a => .ref (ι a)
  | v => v
def zlv (ι : Nat → Nat) (lv : List (Nat × Value)) : List (Nat × Value) := lv.map fun q => (q.1, zcv ι q.2)
/-- a cell, references as places: an array's class is its type's place in ztys -/
def zca (ι : Nat → Nat) (τ : Nat → ClassId) : va_E → va_E
  | .inl (t, n, .inr (.inr (.inr (.inr f)))) => .inl (τ t, n, .inr (.inr (.inr (.inr (fun j => if j < n then (f j).map ι else none)))))
  | .inl (t, n, x) => .inl (τ t, n, x)
  | .inr (ci, fs) => .inr (ci, fs.map (zcv ι))
def zW (ι : Nat → Nat) (τ : Nat → ClassId) (w : List va_E) : va_W := w.mapIdx fun k e => (ι k, zca ι τ e)
def zty : Nat → FieldType
  | 0 => .int
  | 1 => .long
  | 2 => .boolean
  | 3 => .char
  | 4 => .object RX0
  | _ => .object RX6
def ztys (τ : Nat → ClassId) : List (ClassId × FieldType) := [(τ 0, .int), (τ 1, .long), (τ 2, .boolean), (τ 3, .char), (τ 4, .object RX0), (τ 5, .object RX6)]
def zrm (d mc ms : Nat) : Room := { frames := d, cells := mc, slots := ms, locals := 37 * d }
def zNw (U : State) : Prop := ∀ w ∈ zNest, va_Nw w U
def zset (i : Nat) (v : Value) (lv : List (Nat × Value)) : List (Nat × Value) := (i, v) :: lv.filter (fun q => !(q.1 == i) && !(q.1 + 1 == i && q.2.category == 2))
def zset2 (i : Nat) (v : Value) (lv : List (Nat × Value)) : List (Nat × Value) := (i, v) :: lv.filter (fun q => !(q.1 == i) && (!(q.1 == i + 1) && !(q.1 + 1 == i && q.2.category == 2)))
def zlk (i : Nat) : List (Nat × Value) → Option Value
  | [] => none
  | q :: l => if q.1 = i then some q.2 else zlk i l
theorem zlk_mem {i : Nat} {v : Value} : ∀ {l : List (Nat × Value)}, zlk i l = some v → (i, v) ∈ l
  | [], h => by cases h
  | q :: l, h => by
    unfold zlk at h
    split at h
    next e => cases h; subst e; exact List.mem_cons_self
    next => exact List.mem_cons_of_mem _ (zlk_mem h)
theorem zcat (ι : Nat → Nat) (v : Value) : (zcv ι v).category = v.category := by cases v <;> rfl
theorem zlv_set (ι : Nat → Nat) (i : Nat) (v : Value) (lv : List (Nat × Value)) : (i, zcv ι v) :: (zlv ι lv).filter (fun q => !(q.1 == i) && !(q.1 + 1 == i && q.2.category == 2)) = zlv ι (zset i v lv) := by
  simp only [zlv, zset, List.map_cons, List.filter_map]
  congr 3
  funext q
  simp [Function.comp, zcat]
theorem zlv_set2 (ι : Nat → Nat) (i : Nat) (v : Value) (lv : List (Nat × Value)) : (i, zcv ι v) :: (zlv ι lv).filter (fun q => !(q.1 == i) && (!(q.1 == i + 1) && !(q.1 + 1 == i && q.2.category == 2))) = zlv ι (zset2 i v lv) := by
  simp only [zlv, zset2, List.map_cons, List.filter_map]
  congr 3
  funext q
  simp [Function.comp, zcat]
theorem zW_get {ι : Nat → Nat} {τ : Nat → ClassId} {w : List va_E} {k : Nat} {e : va_E} (h : w[k]? = some e) : (zW ι τ w)[k]? = some (ι k, zca ι τ e) := by
  simp [zW, List.getElem?_mapIdx, h]
theorem zW_set {ι : Nat → Nat} {τ : Nat → ClassId} {w : List va_E} {k : Nat} (e : va_E) : (zW ι τ w).set k (ι k, zca ι τ e) = zW ι τ (w.set k e) := by
  apply List.ext_getElem?
  intro j
  simp only [zW, List.getElem?_set, List.getElem?_mapIdx, List.length_mapIdx]
  by_cases hj : k = j
  · subst hj
    by_cases hl : k < w.length <;> simp [hl]
  · simp [hj]
theorem zW_of {ι : Nat → Nat} {τ : Nat → ClassId} {w : List va_E} {k : Nat} {q : Nat × va_E} (h : (zW ι τ w)[k]? = some q) : ∃ e, w[k]? = some e ∧ q = (ι k, zca ι τ e) := by
  simp only [zW, List.getElem?_mapIdx, Option.map_eq_some_iff] at h
  obtain ⟨e, h1, h2⟩ := h
  exact ⟨e, h1, h2.symm⟩
theorem zca_i (ι : Nat → Nat) (τ : Nat → ClassId) (t n : Nat) (f : Nat → Int32) : zca ι τ (.inl (t, n, .inl f)) = .inl (τ t, n, .inl f) := rfl
theorem zca_l (ι : Nat → Nat) (τ : Nat → ClassId) (t n : Nat) (f : Nat → Int64) : zca ι τ (.inl (t, n, .inr (.inl f))) = .inl (τ t, n, .inr (.inl f)) := rfl
theorem zca_q (ι : Nat → Nat) (τ : Nat → ClassId) (t n : Nat) (f : Nat → Option Nat) : zca ι τ (.inl (t, n, .inr (.inr (.inr (.inr f))))) = .inl (τ t, n, .inr (.inr (.inr (.inr (fun j => if j < n then (f j).map ι else none))))) := rfl
theorem zca_o (ι : Nat → Nat) (τ : Nat → ClassId) (ci : Nat) (fs : List Value) : zca ι τ (.inr (ci, fs)) = .inr (ci, fs.map (zcv ι)) := rfl
/-- what stands ahead of a body's walk -/
def zOK : zCx → (Nat → ClassId) → Room → String → ByteArray → Nat → Prop
  | (p, _, _, R, s, m, args, _, meth, c, D, A, H0, _), τ, R', own, cc, nL => p.tables.exec = Jvm.exec ∧ c.code = cc ∧ c.maxLocals = nL ∧ s.vm.findClass own = some m.cls ∧ (∀ w ∈ zT, w.before args s = true) ∧ va_K D vwCl (ztys τ) s ∧ zNw s ∧ R = R' ∧ meth.locks = false ∧ (∀ q, H0.size ≤ q → A q)
def zR : zCx → (Nat → ClassId) → (Nat → Nat) → Nat → Nat → Nat → Nat → List (Nat × Value) → List Value → List va_E → Prop
  | (p, l, e, R, s, m, args, below, meth, c, D, A, H0, Q), τ, ι, nL, kc, ks, pc, lv, st, w => ∀ (H : Heap) (locs : List Loc) (ls : Array Slot), va_P D vwCl (zW ι τ w) H → va_D A (zW ι τ w) → va_S A H0 H locs → lv_has ls nL (zlv ι lv) → W p l e R s m args below meth c H locs kc ks Q (F0 m pc ls (st.map (zcv ι)))
theorem zlk_at {ι : Nat → Nat} {ls : Array Slot} {nL : Nat} {lv : List (Nat × Value)} (h : lv_has ls nL (zlv ι lv)) {i : Nat} {v : Value} (hk : zlk i lv = some v) : ls[i]? = some (.val (zcv ι v)) := h.2.2 (i, zcv ι v) (List.mem_map.mpr ⟨(i, v), zlk_mem hk, rfl⟩)
section ZR
variable {C : zCx} {τ : Nat → ClassId} {ι : Nat → Nat} {R : Room} {own : String} {cc : ByteArray} {nL kc ks pc : Nat} {lv : List (Nat × Value)} {st : List Value} {w : List va_E}
theorem zR_lv (lv' : List (Nat × Value)) (h : ∀ q ∈ lv', zlk q.1 lv = some q.2) (k : zR C τ ι nL kc ks pc lv' st w) : zR C τ ι nL kc ks pc lv st w := by
  obtain ⟨p, l, e, R, s, m, args, below, meth, c, D, A, H0, Q⟩ := C
  intro H locs ls hP hD hS hl
  refine k H locs ls hP hD hS ⟨hl.1, hl.2.1, fun q hq => ?_⟩
  obtain ⟨q0, h1, rfl⟩ := List.mem_map.mp hq
  exact zlk_at hl (h q0 h1)
theorem zr_iconst (hC : zOK C τ R own cc nL) {n : Int} (hdg : decode cc pc = .ok (.iconst n, 1)) (k : zR C τ ι nL kc ks (pc + 1) lv (.int (Int32.ofInt n) :: st) w) : zR C τ ι nL kc ks pc lv st w := by
  obtain ⟨p, l, e, R, s, m, args, below, meth, c, D, A, H0, Q⟩ := C
  obtain ⟨hx, hb, -⟩ := hC
  intro H locs ls hP hD hS hl
  exact lv_iconst hx hb hdg rfl (k H locs ls hP hD hS hl)
theorem zr_bipush (hC : zOK C τ R own cc nL) {n : Int} (hdg : decode cc pc = .ok (.bipush n, 2)) (k : zR C τ ι nL kc ks (pc + 2) lv (.int (Int8.ofInt n).toInt32 :: st) w) : zR C τ ι nL kc ks pc lv st w := by
  obtain ⟨p, l, e, R, s, m, args, below, meth, c, D, A, H0, Q⟩ := C
  obtain ⟨hx, hb, -⟩ := hC
  intro H locs ls hP hD hS hl
  exact lv_bipush hx hb hdg rfl (k H locs ls hP hD hS hl)
theorem zr_sipush (hC : zOK C τ R own cc nL) {n : Int} (hdg : decode cc pc = .ok (.sipush n, 3)) (k : zR C τ ι nL kc ks (pc + 3) lv (.int (Int16.ofInt n).toInt32 :: st) w) : zR C τ ι nL kc ks pc lv st w := by
  obtain ⟨p, l, e, R, s, m, args, below, meth, c, D, A, H0, Q⟩ := C
  obtain ⟨hx, hb, -⟩ := hC
  intro H locs ls hP hD hS hl
  exact lv_sipush hx hb hdg rfl (k H locs ls hP hD hS hl)
theorem zr_lconst (hC : zOK C τ R own cc nL) {n : Fin 2} (hdg : decode cc pc = .ok (.lconst n, 1)) (k : zR C τ ι nL kc ks (pc + 1) lv (.long (Int64.ofNat (n : Nat)) :: st) w) : zR C τ ι nL kc ks pc lv st w := by
  obtain ⟨p, l, e, R, s, m, args, below, meth, c, D, A, H0, Q⟩ := C
  obtain ⟨hx, hb, -⟩ := hC
  intro H locs ls hP hD hS hl
  exact lv_lconst hx hb hdg rfl (k H locs ls hP hD hS hl)
theorem zr_ldc (hC : zOK C τ R own cc nL) {index : Nat} {v : Int32} (hdg : decode cc pc = .ok (.ldc index, 2)) (hk : Cond.constant own index v ∈ zT) (k : zR C τ ι nL kc ks (pc + 2) lv (.int v :: st) w) : zR C τ ι nL kc ks pc lv st w := by
  obtain ⟨p, l, e, R, s, m, args, below, meth, c, D, A, H0, Q⟩ := C
  obtain ⟨hx, hb, hml, hown, hts, -⟩ := hC
  intro H locs ls hP hD hS hl
  exact lv_ldc hx hb hown (hts _ hk) hdg (k H locs ls hP hD hS hl)
theorem zr_ldcw (hC : zOK C τ R own cc nL) {index : Nat} {v : Int32} (hdg : decode cc pc = .ok (.ldc_w index, 3)) (hk : Cond.constant own index v ∈ zT) (k : zR C τ ι nL kc ks (pc + 3) lv (.int v :: st) w) : zR C τ ι nL kc ks pc lv st w := by
  obtain ⟨p, l, e, R, s, m, args, below, meth, c, D, A, H0, Q⟩ := C
  obtain ⟨hx, hb, hml, hown, hts, -⟩ := hC
  intro H locs ls hP hD hS hl
  exact lv_ldcw hx hb hown (hts _ hk) hdg (k H locs ls hP hD hS hl)
theorem zr_ldc2 (hC : zOK C τ R own cc nL) {index : Nat} {v : Int64} (hdg : decode cc pc = .ok (.ldc2_w index, 3)) (hk : Cond.constantLong own index v ∈ zT) (k : zR C τ ι nL kc ks (pc + 3) lv (.long v :: st) w) : zR C τ ι nL kc ks pc lv st w := by
  obtain ⟨p, l, e, R, s, m, args, below, meth, c, D, A, H0, Q⟩ := C
  obtain ⟨hx, hb, hml, hown, hts, -⟩ := hC
  intro H locs ls hP hD hS hl
  exact lv_ldc2 hx hb hown (hts _ hk) hdg (k H locs ls hP hD hS hl)
theorem zr_iload_n (hC : zOK C τ R own cc nL) {i : Fin 4} {x : Int32} (hdg : decode cc pc = .ok (.iload_n i, 1)) (hk : zlk (i : Nat) lv = some (.int x)) (k : zR C τ ι nL kc ks (pc + 1) lv (.int x :: st) w) : zR C τ ι nL kc ks pc lv st w := by
  obtain ⟨p, l, e, R, s, m, args, below, meth, c, D, A, H0, Q⟩ := C
  obtain ⟨hx, hb, -⟩ := hC
  intro H locs ls hP hD hS hl
  exact lv_iload_n hx hb hdg rfl (zlk_at hl hk) (k H locs ls hP hD hS hl)
theorem zr_iload (hC : zOK C τ R own cc nL) {i : Nat} {x : Int32} (hdg : decode cc pc = .ok (.iload i, 2)) (hk : zlk i lv = some (.int x)) (k : zR C τ ι nL kc ks (pc + 2) lv (.int x :: st) w) : zR C τ ι nL kc ks pc lv st w := by
  obtain ⟨p, l, e, R, s, m, args, below, meth, c, D, A, H0, Q⟩ := C
  obtain ⟨hx, hb, -⟩ := hC
  intro H locs ls hP hD hS hl
  exact lv_iload hx hb hdg (zlk_at hl hk) (k H locs ls hP hD hS hl)
theorem zr_lload_n (hC : zOK C τ R own cc nL) {i : Fin 4} {x : Int64} (hdg : decode cc pc = .ok (.lload_n i, 1)) (hk : zlk (i : Nat) lv = some (.long x)) (k : zR C τ ι nL kc ks (pc + 1) lv (.long x :: st) w) : zR C τ ι nL kc ks pc lv st w := by
  obtain ⟨p, l, e, R, s, m, args, below, meth, c, D, A, H0, Q⟩ := C
  obtain ⟨hx, hb, -⟩ := hC
  intro H locs ls hP hD hS hl
  exact lv_lload_n hx hb hdg rfl (zlk_at hl hk) (k H locs ls hP hD hS hl)
theorem zr_lload (hC : zOK C τ R own cc nL) {i : Nat} {x : Int64} (hdg : decode cc pc = .ok (.lload i, 2)) (hk : zlk i lv = some (.long x)) (k : zR C τ ι nL kc ks (pc + 2) lv (.long x :: st) w) : zR C τ ι nL kc ks pc lv st w := by
  obtain ⟨p, l, e, R, s, m, args, below, meth, c, D, A, H0, Q⟩ := C
  obtain ⟨hx, hb, -⟩ := hC
  intro H locs ls hP hD hS hl
  exact lv_lload hx hb hdg (zlk_at hl hk) (k H locs ls hP hD hS hl)
theorem zr_aload_n (hC : zOK C τ R own cc nL) {i : Fin 4} {x : Nat} (hdg : decode cc pc = .ok (.aload_n i, 1)) (hk : zlk (i : Nat) lv = some (.ref x)) (k : zR C τ ι nL kc ks (pc + 1) lv (.ref x :: st) w) : zR C τ ι nL kc ks pc lv st w := by
  obtain ⟨p, l, e, R, s, m, args, below, meth, c, D, A, H0, Q⟩ := C
  obtain ⟨hx, hb, -⟩ := hC
  intro H locs ls hP hD hS hl
  exact lv_aload_n hx hb hdg rfl (zlk_at hl hk) (k H locs ls hP hD hS hl)
theorem zr_aload (hC : zOK C τ R own cc nL) {i : Nat} {x : Nat} (hdg : decode cc pc = .ok (.aload i, 2)) (hk : zlk i lv = some (.ref x)) (k : zR C τ ι nL kc ks (pc + 2) lv (.ref x :: st) w) : zR C τ ι nL kc ks pc lv st w := by
  obtain ⟨p, l, e, R, s, m, args, below, meth, c, D, A, H0, Q⟩ := C
  obtain ⟨hx, hb, -⟩ := hC
  intro H locs ls hP hD hS hl
  exact lv_aload hx hb hdg (zlk_at hl hk) (k H locs ls hP hD hS hl)
theorem zr_istore_n (hC : zOK C τ R own cc nL) {i : Fin 4} {x : Int32} (hdg : decode cc pc = .ok (.istore_n i, 1)) (hn : (i : Nat) < nL) (k : zR C τ ι nL kc ks (pc + 1) (zset i (.int x) lv) st w) : zR C τ ι nL kc ks pc lv (.int x :: st) w := by
  obtain ⟨p, l, e, R, s, m, args, below, meth, c, D, A, H0, Q⟩ := C
  obtain ⟨hx, hb, -⟩ := hC
  intro H locs ls hP hD hS hl
  exact lv_istore_n hx hb hdg rfl hl hn (zlv_set ι i (.int x) lv) (fun ls' hl' => k H locs ls' hP hD hS hl')
theorem zr_istore (hC : zOK C τ R own cc nL) {i : Nat} {x : Int32} (hdg : decode cc pc = .ok (.istore i, 2)) (hn : i < nL) (k : zR C τ ι nL kc ks (pc + 2) (zset i (.int x) lv) st w) : zR C τ ι nL kc ks pc lv (.int x :: st) w := by
  obtain ⟨p, l, e, R, s, m, args, below, meth, c, D, A, H0, Q⟩ := C
  obtain ⟨hx, hb, -⟩ := hC
  intro H locs ls hP hD hS hl
  exact lv_istore hx hb hdg hl hn (zlv_set ι i (.int x) lv) (fun ls' hl' => k H locs ls' hP hD hS hl')
theorem zr_lstore_n (hC : zOK C τ R own cc nL) {i : Fin 4} {x : Int64} (hdg : decode cc pc = .ok (.lstore_n i, 1)) (hn : (i : Nat) + 1 < nL) (k : zR C τ ι nL kc ks (pc + 1) (zset2 i (.long x) lv) st w) : zR C τ ι nL kc ks pc lv (.long x :: st) w := by
  obtain ⟨p, l, e, R, s, m, args, below, meth, c, D, A, H0, Q⟩ := C
  obtain ⟨hx, hb, -⟩ := hC
  intro H locs ls hP hD hS hl
  exact lv_lstore_n hx hb hdg rfl hl hn (zlv_set2 ι i (.long x) lv) (fun ls' hl' => k H locs ls' hP hD hS hl')
theorem zr_lstore (hC : zOK C τ R own cc nL) {i : Nat} {x : Int64} (hdg : decode cc pc = .ok (.lstore i, 2)) (hn : i + 1 < nL) (k : zR C τ ι nL kc ks (pc + 2) (zset2 i (.long x) lv) st w) : zR C τ ι nL kc ks pc lv (.long x :: st) w := by
  obtain ⟨p, l, e, R, s, m, args, below, meth, c, D, A, H0, Q⟩ := C
  obtain ⟨hx, hb, -⟩ := hC
  intro H locs ls hP hD hS hl
  exact lv_lstore hx hb hdg hl hn (zlv_set2 ι i (.long x) lv) (fun ls' hl' => k H locs ls' hP hD hS hl')
theorem zr_astore_n (hC : zOK C τ R own cc nL) {i : Fin 4} {x : Nat} (hdg : decode cc pc = .ok (.astore_n i, 1)) (hn : (i : Nat) < nL) (k : zR C τ ι nL kc ks (pc + 1) (zset i (.ref x) lv) st w) : zR C τ ι nL kc ks pc lv (.ref x :: st) w := by
  obtain ⟨p, l, e, R, s, m, args, below, meth, c, D, A, H0, Q⟩ := C
  obtain ⟨hx, hb, -⟩ := hC
  intro H locs ls hP hD hS hl
  exact lv_astore_n hx hb hdg rfl hl hn (zlv_set ι i (.ref x) lv) (fun ls' hl' => k H locs ls' hP hD hS hl')
theorem zr_astore (hC : zOK C τ R own cc nL) {i : Nat} {x : Nat} (hdg : decode cc pc = .ok (.astore i, 2)) (hn : i < nL) (k : zR C τ ι nL kc ks (pc + 2) (zset i (.ref x) lv) st w) : zR C τ ι nL kc ks pc lv (.ref x :: st) w := by
  obtain ⟨p, l, e, R, s, m, args, below, meth, c, D, A, H0, Q⟩ := C
  obtain ⟨hx, hb, -⟩ := hC
  intro H locs ls hP hD hS hl
  exact lv_astore hx hb hdg hl hn (zlv_set ι i (.ref x) lv) (fun ls' hl' => k H locs ls' hP hD hS hl')
theorem zr_iinc (hC : zOK C τ R own cc nL) {i : Nat} {n : Int} {x : Int32} (hdg : decode cc pc = .ok (.iinc i n, 3)) (hk : zlk i lv = some (.int x)) (hn : i < nL) (k : zR C τ ι nL kc ks (pc + 3) (zset i (.int (x + Int32.ofInt n)) lv) st w) : zR C τ ι nL kc ks pc lv st w := by
  obtain ⟨p, l, e, R, s, m, args, below, meth, c, D, A, H0, Q⟩ := C
  obtain ⟨hx, hb, -⟩ := hC
  intro H locs ls hP hD hS hl
  obtain ⟨j, hj⟩ := List.getElem?_of_mem (show (i, Value.int x) ∈ zlv ι lv from List.mem_map.mpr ⟨(i, .int x), zlk_mem hk, rfl⟩)
  exact lv_iinc hx hb hdg hl hj rfl hn (zlv_set ι i (.int (x + Int32.ofInt n)) lv) (fun ls' hl' => k H locs ls' hP hD hS hl')
theorem zr_iadd (hC : zOK C τ R own cc nL) {x y : Int32} (hdg : decode cc pc = .ok (.iadd, 1)) (k : zR C τ ι nL kc ks (pc + 1) lv (.int (x + y) :: st) w) : zR C τ ι nL kc ks pc lv (.int y :: .int x :: st) w := by
  obtain ⟨p, l, e, R, s, m, args, below, meth, c, D, A, H0, Q⟩ := C
  obtain ⟨hx, hb, -⟩ := hC
  intro H locs ls hP hD hS hl
  exact lv_iadd hx hb hdg (k H locs ls hP hD hS hl)
theorem zr_isub (hC : zOK C τ R own cc nL) {x y : Int32} (hdg : decode cc pc = .ok (.isub, 1)) (k : zR C τ ι nL kc ks (pc + 1) lv (.int (x - y) :: st) w) : zR C τ ι nL kc ks pc lv (.int y :: .int x :: st) w := by
  obtain ⟨p, l, e, R, s, m, args, below, meth, c, D, A, H0, Q⟩ := C
  obtain ⟨hx, hb, -⟩ := hC
  intro H locs ls hP hD hS hl
  exact lv_isub hx hb hdg (k H locs ls hP hD hS hl)
theorem zr_imul (hC : zOK C τ R own cc nL) {x y : Int32} (hdg : decode cc pc = .ok (.imul, 1)) (k : zR C τ ι nL kc ks (pc + 1) lv (.int (x * y) :: st) w) : zR C τ ι nL kc ks pc lv (.int y :: .int x :: st) w := by
  obtain ⟨p, l, e, R, s, m, args, below, meth, c, D, A, H0, Q⟩ := C
  obtain ⟨hx, hb, -⟩ := hC
  intro H locs ls hP hD hS hl
  exact lv_imul hx hb hdg (k H locs ls hP hD hS hl)
theorem zr_iand (hC : zOK C τ R own cc nL) {x y : Int32} (hdg : decode cc pc = .ok (.iand, 1)) (k : zR C τ ι nL kc ks (pc + 1) lv (.int (x &&& y) :: st) w) : zR C τ ι nL kc ks pc lv (.int y :: .int x :: st) w := by
  obtain ⟨p, l, e, R, s, m, args, below, meth, c, D, A, H0, Q⟩ := C
  obtain ⟨hx, hb, -⟩ := hC
  intro H locs ls hP hD hS hl
  exact lv_iand hx hb hdg (k H locs ls hP hD hS hl)
theorem zr_ior (hC : zOK C τ R own cc nL) {x y : Int32} (hdg : decode cc pc = .ok (.ior, 1)) (k : zR C τ ι nL kc ks (pc + 1) lv (.int (x ||| y) :: st) w) : zR C τ ι nL kc ks pc lv (.int y :: .int x :: st) w := by
  obtain ⟨p, l, e, R, s, m, args, below, meth, c, D, A, H0, Q⟩ := C
  obtain ⟨hx, hb, -⟩ := hC
  intro H locs ls hP hD hS hl
  exact lv_ior hx hb hdg (k H locs ls hP hD hS hl)
theorem zr_ixor (hC : zOK C τ R own cc nL) {x y : Int32} (hdg : decode cc pc = .ok (.ixor, 1)) (k : zR C τ ι nL kc ks (pc + 1) lv (.int (x ^^^ y) :: st) w) : zR C τ ι nL kc ks pc lv (.int y :: .int x :: st) w := by
  obtain ⟨p, l, e, R, s, m, args, below, meth, c, D, A, H0, Q⟩ := C
  obtain ⟨hx, hb, -⟩ := hC
  intro H locs ls hP hD hS hl
  exact lv_ixor hx hb hdg (k H locs ls hP hD hS hl)
theorem zr_ishl (hC : zOK C τ R own cc nL) {x y : Int32} (hdg : decode cc pc = .ok (.ishl, 1)) (k : zR C τ ι nL kc ks (pc + 1) lv (.int (x <<< (y &&& 31)) :: st) w) : zR C τ ι nL kc ks pc lv (.int y :: .int x :: st) w := by
  obtain ⟨p, l, e, R, s, m, args, below, meth, c, D, A, H0, Q⟩ := C
  obtain ⟨hx, hb, -⟩ := hC
  intro H locs ls hP hD hS hl
  exact lv_ishl hx hb hdg (k H locs ls hP hD hS hl)
theorem zr_ishr (hC : zOK C τ R own cc nL) {x y : Int32} (hdg : decode cc pc = .ok (.ishr, 1)) (k : zR C τ ι nL kc ks (pc + 1) lv (.int (x >>> (y &&& 31)) :: st) w) : zR C τ ι nL kc ks pc lv (.int y :: .int x :: st) w := by
  obtain ⟨p, l, e, R, s, m, args, below, meth, c, D, A, H0, Q⟩ := C
  obtain ⟨hx, hb, -⟩ := hC
  intro H locs ls hP hD hS hl
  exact lv_ishr hx hb hdg (k H locs ls hP hD hS hl)
theorem zr_iushr (hC : zOK C τ R own cc nL) {x y : Int32} (hdg : decode cc pc = .ok (.iushr, 1)) (k : zR C τ ι nL kc ks (pc + 1) lv (.int (x.toUInt32 >>> (y.toUInt32 &&& Int32.toUInt32 31)).toInt32 :: st) w) : zR C τ ι nL kc ks pc lv (.int y :: .int x :: st) w := by
  obtain ⟨p, l, e, R, s, m, args, below, meth, c, D, A, H0, Q⟩ := C
  obtain ⟨hx, hb, -⟩ := hC
  intro H locs ls hP hD hS hl
  exact lv_iushr hx hb hdg rfl (k H locs ls hP hD hS hl)
theorem zr_idiv (hC : zOK C τ R own cc nL) {x y : Int32} (hdg : decode cc pc = .ok (.idiv, 1)) (hne : ¬ y = 0) (k : zR C τ ι nL kc ks (pc + 1) lv (.int (x / y) :: st) w) : zR C τ ι nL kc ks pc lv (.int y :: .int x :: st) w := by
  obtain ⟨p, l, e, R, s, m, args, below, meth, c, D, A, H0, Q⟩ := C
  obtain ⟨hx, hb, -⟩ := hC
  intro H locs ls hP hD hS hl
  exact lv_idiv hx hb hdg hne (k H locs ls hP hD hS hl)
theorem zr_irem (hC : zOK C τ R own cc nL) {x y : Int32} (hdg : decode cc pc = .ok (.irem, 1)) (hne : ¬ y = 0) (k : zR C τ ι nL kc ks (pc + 1) lv (.int (x - x / y * y) :: st) w) : zR C τ ι nL kc ks pc lv (.int y :: .int x :: st) w := by
  obtain ⟨p, l, e, R, s, m, args, below, meth, c, D, A, H0, Q⟩ := C
  obtain ⟨hx, hb, -⟩ := hC
  intro H locs ls hP hD hS hl
  exact lv_irem hx hb hdg hne (k H locs ls hP hD hS hl)
theorem zr_ladd (hC : zOK C τ R own cc nL) {x y : Int64} (hdg : decode cc pc = .ok (.ladd, 1)) (k : zR C τ ι nL kc ks (pc + 1) lv (.long (x + y) :: st) w) : zR C τ ι nL kc ks pc lv (.long y :: .long x :: st) w := by
  obtain ⟨p, l, e, R, s, m, args, below, meth, c, D, A, H0, Q⟩ := C
  obtain ⟨hx, hb, -⟩ := hC
  intro H locs ls hP hD hS hl
  exact lv_ladd hx hb hdg (k H locs ls hP hD hS hl)
theorem zr_lmul (hC : zOK C τ R own cc nL) {x y : Int64} (hdg : decode cc pc = .ok (.lmul, 1)) (k : zR C τ ι nL kc ks (pc + 1) lv (.long (x * y) :: st) w) : zR C τ ι nL kc ks pc lv (.long y :: .long x :: st) w := by
  obtain ⟨p, l, e, R, s, m, args, below, meth, c, D, A, H0, Q⟩ := C
  obtain ⟨hx, hb, -⟩ := hC
  intro H locs ls hP hD hS hl
  exact lv_lmul hx hb hdg (k H locs ls hP hD hS hl)
theorem zr_land (hC : zOK C τ R own cc nL) {x y : Int64} (hdg : decode cc pc = .ok (.land, 1)) (k : zR C τ ι nL kc ks (pc + 1) lv (.long (x &&& y) :: st) w) : zR C τ ι nL kc ks pc lv (.long y :: .long x :: st) w := by
  obtain ⟨p, l, e, R, s, m, args, below, meth, c, D, A, H0, Q⟩ := C
  obtain ⟨hx, hb, -⟩ := hC
  intro H locs ls hP hD hS hl
  exact lv_land hx hb hdg (k H locs ls hP hD hS hl)
theorem zr_lor (hC : zOK C τ R own cc nL) {x y : Int64} (hdg : decode cc pc = .ok (.lor, 1)) (k : zR C τ ι nL kc ks (pc + 1) lv (.long (x ||| y) :: st) w) : zR C τ ι nL kc ks pc lv (.long y :: .long x :: st) w := by
  obtain ⟨p, l, e, R, s, m, args, below, meth, c, D, A, H0, Q⟩ := C
  obtain ⟨hx, hb, -⟩ := hC
  intro H locs ls hP hD hS hl
  exact lv_lor hx hb hdg (k H locs ls hP hD hS hl)
theorem zr_ldiv (hC : zOK C τ R own cc nL) {x y : Int64} (hdg : decode cc pc = .ok (.ldiv, 1)) (hne : ¬ y = 0) (k : zR C τ ι nL kc ks (pc + 1) lv (.long (x / y) :: st) w) : zR C τ ι nL kc ks pc lv (.long y :: .long x :: st) w := by
  obtain ⟨p, l, e, R, s, m, args, below, meth, c, D, A, H0, Q⟩ := C
  obtain ⟨hx, hb, -⟩ := hC
  intro H locs ls hP hD hS hl
  exact lv_ldiv hx hb hdg hne (k H locs ls hP hD hS hl)
theorem zr_lrem (hC : zOK C τ R own cc nL) {x y : Int64} (hdg : decode cc pc = .ok (.lrem, 1)) (hne : ¬ y = 0) (k : zR C τ ι nL kc ks (pc + 1) lv (.long (x - x / y * y) :: st) w) : zR C τ ι nL kc ks pc lv (.long y :: .long x :: st) w := by
  obtain ⟨p, l, e, R, s, m, args, below, meth, c, D, A, H0, Q⟩ := C
  obtain ⟨hx, hb, -⟩ := hC
  intro H locs ls hP hD hS hl
  exact lv_lrem hx hb hdg hne (k H locs ls hP hD hS hl)
theorem zr_lshl (hC : zOK C τ R own cc nL) {x : Int64} {y : Int32} (hdg : decode cc pc = .ok (.lshl, 1)) (k : zR C τ ι nL kc ks (pc + 1) lv (.long (x <<< (y.toInt64 &&& 63)) :: st) w) : zR C τ ι nL kc ks pc lv (.int y :: .long x :: st) w := by
  obtain ⟨p, l, e, R, s, m, args, below, meth, c, D, A, H0, Q⟩ := C
  obtain ⟨hx, hb, -⟩ := hC
  intro H locs ls hP hD hS hl
  exact lv_lshl hx hb hdg rfl (k H locs ls hP hD hS hl)
theorem zr_lcmp (hC : zOK C τ R own cc nL) {x y : Int64} (hdg : decode cc pc = .ok (.lcmp, 1)) (k : zR C τ ι nL kc ks (pc + 1) lv (.int (lg_cmp x y) :: st) w) : zR C τ ι nL kc ks pc lv (.long y :: .long x :: st) w := by
  obtain ⟨p, l, e, R, s, m, args, below, meth, c, D, A, H0, Q⟩ := C
  obtain ⟨hx, hb, -⟩ := hC
  intro H locs ls hP hD hS hl
  exact W.lcmp hx hb hdg (k H locs ls hP hD hS hl)
theorem zr_i2l (hC : zOK C τ R own cc nL) {x : Int32} (hdg : decode cc pc = .ok (.i2l, 1)) (k : zR C τ ι nL kc ks (pc + 1) lv (.long x.toInt64 :: st) w) : zR C τ ι nL kc ks pc lv (.int x :: st) w := by
  obtain ⟨p, l, e, R, s, m, args, below, meth, c, D, A, H0, Q⟩ := C
  obtain ⟨hx, hb, -⟩ := hC
  intro H locs ls hP hD hS hl
  exact lv_i2l hx hb hdg rfl (k H locs ls hP hD hS hl)
theorem zr_l2i (hC : zOK C τ R own cc nL) {x : Int64} (hdg : decode cc pc = .ok (.l2i, 1)) (k : zR C τ ι nL kc ks (pc + 1) lv (.int x.toInt32 :: st) w) : zR C τ ι nL kc ks pc lv (.long x :: st) w := by
  obtain ⟨p, l, e, R, s, m, args, below, meth, c, D, A, H0, Q⟩ := C
  obtain ⟨hx, hb, -⟩ := hC
  intro H locs ls hP hD hS hl
  exact lv_l2i hx hb hdg rfl (k H locs ls hP hD hS hl)
theorem zr_i2b (hC : zOK C τ R own cc nL) {x : Int32} (hdg : decode cc pc = .ok (.i2b, 1)) (k : zR C τ ι nL kc ks (pc + 1) lv (.int x.toInt8.toInt32 :: st) w) : zR C τ ι nL kc ks pc lv (.int x :: st) w := by
  obtain ⟨p, l, e, R, s, m, args, below, meth, c, D, A, H0, Q⟩ := C
  obtain ⟨hx, hb, -⟩ := hC
  intro H locs ls hP hD hS hl
  exact lv_i2b hx hb hdg rfl (k H locs ls hP hD hS hl)
theorem zr_i2s (hC : zOK C τ R own cc nL) {x : Int32} (hdg : decode cc pc = .ok (.i2s, 1)) (k : zR C τ ι nL kc ks (pc + 1) lv (.int x.toInt16.toInt32 :: st) w) : zR C τ ι nL kc ks pc lv (.int x :: st) w := by
  obtain ⟨p, l, e, R, s, m, args, below, meth, c, D, A, H0, Q⟩ := C
  obtain ⟨hx, hb, -⟩ := hC
  intro H locs ls hP hD hS hl
  exact lv_i2s hx hb hdg rfl (k H locs ls hP hD hS hl)
theorem zr_i2c (hC : zOK C τ R own cc nL) {x : Int32} (hdg : decode cc pc = .ok (.i2c, 1)) (k : zR C τ ι nL kc ks (pc + 1) lv (.int (x.toUInt32 % 65536).toInt32 :: st) w) : zR C τ ι nL kc ks pc lv (.int x :: st) w := by
  obtain ⟨p, l, e, R, s, m, args, below, meth, c, D, A, H0, Q⟩ := C
  obtain ⟨hx, hb, -⟩ := hC
  intro H locs ls hP hD hS hl
  exact lv_i2c hx hb hdg rfl (k H locs ls hP hD hS hl)
theorem zr_dup (hC : zOK C τ R own cc nL) {v : Value} (hdg : decode cc pc = .ok (.dup, 1)) (hv : v.category = 1) (k : zR C τ ι nL kc ks (pc + 1) lv (v :: v :: st) w) : zR C τ ι nL kc ks pc lv (v :: st) w := by
  obtain ⟨p, l, e, R, s, m, args, below, meth, c, D, A, H0, Q⟩ := C
  obtain ⟨hx, hb, -⟩ := hC
  intro H locs ls hP hD hS hl
  exact lv_dup hx hb hdg ((zcat ι v).trans hv) (k H locs ls hP hD hS hl)
theorem zr_pop (hC : zOK C τ R own cc nL) {v : Value} (hdg : decode cc pc = .ok (.pop, 1)) (hv : v.category = 1) (k : zR C τ ι nL kc ks (pc + 1) lv st w) : zR C τ ι nL kc ks pc lv (v :: st) w := by
  obtain ⟨p, l, e, R, s, m, args, below, meth, c, D, A, H0, Q⟩ := C
  obtain ⟨hx, hb, -⟩ := hC
  intro H locs ls hP hD hS hl
  exact lv_pop hx hb hdg ((zcat ι v).trans hv) (k H locs ls hP hD hS hl)
theorem zr_dup2 (hC : zOK C τ R own cc nL) {v v2 : Value} (hdg : decode cc pc = .ok (.dup2, 1)) (hv : v.category = 1) (hv2 : v2.category = 1) (k : zR C τ ι nL kc ks (pc + 1) lv (v :: v2 :: v :: v2 :: st) w) : zR C τ ι nL kc ks pc lv (v :: v2 :: st) w := by
  obtain ⟨p, l, e, R, s, m, args, below, meth, c, D, A, H0, Q⟩ := C
  obtain ⟨hx, hb, -⟩ := hC
  intro H locs ls hP hD hS hl
  exact lv_dup2_11 hx hb hdg ((zcat ι v).trans hv) ((zcat ι v2).trans hv2) (k H locs ls hP hD hS hl)
theorem zr_goto (hC : zOK C τ R own cc nL) {off : Int} {tgt : Nat} (hdg : decode cc pc = .ok (.goto off, 3)) (ht : (pc : Int) + off = (tgt : Int)) (k : zR C τ ι nL kc ks tgt lv st w) : zR C τ ι nL kc ks pc lv st w := by
  obtain ⟨p, l, e, R, s, m, args, below, meth, c, D, A, H0, Q⟩ := C
  obtain ⟨hx, hb, -⟩ := hC
  intro H locs ls hP hD hS hl
  exact lv_goto hx hb hdg ht (k H locs ls hP hD hS hl)
theorem zr_tableOut (hC : zOK C τ R own cc nL) {dflt lo hi : Int} {offs : Array Int} {len : Nat} {x : Int32} {tgt : Nat} (hdg : decode cc pc = .ok (.tableswitch dflt lo hi offs, len)) (h : x.toInt < lo ∨ hi < x.toInt) (ht : (pc : Int) + dflt = (tgt : Int)) (k : zR C τ ι nL kc ks tgt lv st w) : zR C τ ι nL kc ks pc lv (.int x :: st) w := by
  obtain ⟨p, l, e, R, s, m, args, below, meth, c, D, A, H0, Q⟩ := C
  obtain ⟨hx, hb, -⟩ := hC
  intro H locs ls hP hD hS hl
  exact lv_tableOut hx hb hdg h ht (k H locs ls hP hD hS hl)
theorem zr_tableIn (hC : zOK C τ R own cc nL) {dflt lo hi : Int} {offs : Array Int} {len : Nat} {x : Int32} {off : Int} {tgt : Nat} (hdg : decode cc pc = .ok (.tableswitch dflt lo hi offs, len)) (h1 : ¬ x.toInt < lo) (h2 : ¬ hi < x.toInt) (ho : offs[(x.toInt - lo).toNat]? = some off) (ht : (pc : Int) + off = (tgt : Int)) (k : zR C τ ι nL kc ks tgt lv st w) : zR C τ ι nL kc ks pc lv (.int x :: st) w := by
  obtain ⟨p, l, e, R, s, m, args, below, meth, c, D, A, H0, Q⟩ := C
  obtain ⟨hx, hb, -⟩ := hC
  intro H locs ls hP hD hS hl
  exact lv_tableIn hx hb hdg h1 h2 ho ht (k H locs ls hP hD hS hl)
theorem zr_if_eq (hC : zOK C τ R own cc nL) {x : Int32} {off : Int} {tgt : Nat} (hdg : decode cc pc = .ok (.ifCond .eq off, 3)) (ht : (pc : Int) + off = (tgt : Int)) (kt : x = 0 → zR C τ ι nL kc ks tgt lv st w) (kf : ¬ x = 0 → zR C τ ι nL kc ks (pc + 3) lv st w) : zR C τ ι nL kc ks pc lv (.int x :: st) w := by
  obtain ⟨p, l, e, R, s, m, args, below, meth, c, D, A, H0, Q⟩ := C
  obtain ⟨hx, hb, -⟩ := hC
  intro H locs ls hP hD hS hl
  exact lv_if_eq hx hb hdg ht (fun hc => kt hc H locs ls hP hD hS hl) (fun hc => kf hc H locs ls hP hD hS hl)
theorem zr_icmp_eq (hC : zOK C τ R own cc nL) {x y : Int32} {off : Int} {tgt : Nat} (hdg : decode cc pc = .ok (.if_icmp .eq off, 3)) (ht : (pc : Int) + off = (tgt : Int)) (kt : x = y → zR C τ ι nL kc ks tgt lv st w) (kf : ¬ x = y → zR C τ ι nL kc ks (pc + 3) lv st w) : zR C τ ι nL kc ks pc lv (.int y :: .int x :: st) w := by
  obtain ⟨p, l, e, R, s, m, args, below, meth, c, D, A, H0, Q⟩ := C
  obtain ⟨hx, hb, -⟩ := hC
  intro H locs ls hP hD hS hl
  exact lv_icmp_eq hx hb hdg ht (fun hc => kt hc H locs ls hP hD hS hl) (fun hc => kf hc H locs ls hP hD hS hl)
theorem zr_if_ne (hC : zOK C τ R own cc nL) {x : Int32} {off : Int} {tgt : Nat} (hdg : decode cc pc = .ok (.ifCond .ne off, 3)) (ht : (pc : Int) + off = (tgt : Int)) (kt : ¬ x = 0 → zR C τ ι nL kc ks tgt lv st w) (kf : x = 0 → zR C τ ι nL kc ks (pc + 3) lv st w) : zR C τ ι nL kc ks pc lv (.int x :: st) w := by
  obtain ⟨p, l, e, R, s, m, args, below, meth, c, D, A, H0, Q⟩ := C
  obtain ⟨hx, hb, -⟩ := hC
  intro H locs ls hP hD hS hl
  exact lv_if_ne hx hb hdg ht (fun hc => kt hc H locs ls hP hD hS hl) (fun hc => kf hc H locs ls hP hD hS hl)
theorem zr_icmp_ne (hC : zOK C τ R own cc nL) {x y : Int32} {off : Int} {tgt : Nat} (hdg : decode cc pc = .ok (.if_icmp .ne off, 3)) (ht : (pc : Int) + off = (tgt : Int)) (kt : ¬ x = y → zR C τ ι nL kc ks tgt lv st w) (kf : x = y → zR C τ ι nL kc ks (pc + 3) lv st w) : zR C τ ι nL kc ks pc lv (.int y :: .int x :: st) w := by
  obtain ⟨p, l, e, R, s, m, args, below, meth, c, D, A, H0, Q⟩ := C
  obtain ⟨hx, hb, -⟩ := hC
  intro H locs ls hP hD hS hl
  exact lv_icmp_ne hx hb hdg ht (fun hc => kt hc H locs ls hP hD hS hl) (fun hc => kf hc H locs ls hP hD hS hl)
theorem zr_if_lt (hC : zOK C τ R own cc nL) {x : Int32} {off : Int} {tgt : Nat} (hdg : decode cc pc = .ok (.ifCond .lt off, 3)) (ht : (pc : Int) + off = (tgt : Int)) (kt : x < 0 → zR C τ ι nL kc ks tgt lv st w) (kf : ¬ x < 0 → zR C τ ι nL kc ks (pc + 3) lv st w) : zR C τ ι nL kc ks pc lv (.int x :: st) w := by
  obtain ⟨p, l, e, R, s, m, args, below, meth, c, D, A, H0, Q⟩ := C
  obtain ⟨hx, hb, -⟩ := hC
  intro H locs ls hP hD hS hl
  exact lv_if_lt hx hb hdg ht (fun hc => kt hc H locs ls hP hD hS hl) (fun hc => kf hc H locs ls hP hD hS hl)
theorem zr_icmp_lt (hC : zOK C τ R own cc nL) {x y : Int32} {off : Int} {tgt : Nat} (hdg : decode cc pc = .ok (.if_icmp .lt off, 3)) (ht : (pc : Int) + off = (tgt : Int)) (kt : x < y → zR C τ ι nL kc ks tgt lv st w) (kf : ¬ x < y → zR C τ ι nL kc ks (pc + 3) lv st w) : zR C τ ι nL kc ks pc lv (.int y :: .int x :: st) w := by
  obtain ⟨p, l, e, R, s, m, args, below, meth, c, D, A, H0, Q⟩ := C
  obtain ⟨hx, hb, -⟩ := hC
  intro H locs ls hP hD hS hl
  exact lv_icmp_lt hx hb hdg ht (fun hc => kt hc H locs ls hP hD hS hl) (fun hc => kf hc H locs ls hP hD hS hl)
theorem zr_if_ge (hC : zOK C τ R own cc nL) {x : Int32} {off : Int} {tgt : Nat} (hdg : decode cc pc = .ok (.ifCond .ge off, 3)) (ht : (pc : Int) + off = (tgt : Int)) (kt : 0 ≤ x → zR C τ ι nL kc ks tgt lv st w) (kf : ¬ 0 ≤ x → zR C τ ι nL kc ks (pc + 3) lv st w) : zR C τ ι nL kc ks pc lv (.int x :: st) w := by
  obtain ⟨p, l, e, R, s, m, args, below, meth, c, D, A, H0, Q⟩ := C
  obtain ⟨hx, hb, -⟩ := hC
  intro H locs ls hP hD hS hl
  exact lv_if_ge hx hb hdg ht (fun hc => kt hc H locs ls hP hD hS hl) (fun hc => kf hc H locs ls hP hD hS hl)
theorem zr_icmp_ge (hC : zOK C τ R own cc nL) {x y : Int32} {off : Int} {tgt : Nat} (hdg : decode cc pc = .ok (.if_icmp .ge off, 3)) (ht : (pc : Int) + off = (tgt : Int)) (kt : y ≤ x → zR C τ ι nL kc ks tgt lv st w) (kf : ¬ y ≤ x → zR C τ ι nL kc ks (pc + 3) lv st w) : zR C τ ι nL kc ks pc lv (.int y :: .int x :: st) w := by
  obtain ⟨p, l, e, R, s, m, args, below, meth, c, D, A, H0, Q⟩ := C
  obtain ⟨hx, hb, -⟩ := hC
  intro H locs ls hP hD hS hl
  exact lv_icmp_ge hx hb hdg ht (fun hc => kt hc H locs ls hP hD hS hl) (fun hc => kf hc H locs ls hP hD hS hl)
theorem zr_if_gt (hC : zOK C τ R own cc nL) {x : Int32} {off : Int} {tgt : Nat} (hdg : decode cc pc = .ok (.ifCond .gt off, 3)) (ht : (pc : Int) + off = (tgt : Int)) (kt : 0 < x → zR C τ ι nL kc ks tgt lv st w) (kf : ¬ 0 < x → zR C τ ι nL kc ks (pc + 3) lv st w) : zR C τ ι nL kc ks pc lv (.int x :: st) w := by
  obtain ⟨p, l, e, R, s, m, args, below, meth, c, D, A, H0, Q⟩ := C
  obtain ⟨hx, hb, -⟩ := hC
  intro H locs ls hP hD hS hl
  exact lv_if_gt hx hb hdg ht (fun hc => kt hc H locs ls hP hD hS hl) (fun hc => kf hc H locs ls hP hD hS hl)
theorem zr_icmp_gt (hC : zOK C τ R own cc nL) {x y : Int32} {off : Int} {tgt : Nat} (hdg : decode cc pc = .ok (.if_icmp .gt off, 3)) (ht : (pc : Int) + off = (tgt : Int)) (kt : y < x → zR C τ ι nL kc ks tgt lv st w) (kf : ¬ y < x → zR C τ ι nL kc ks (pc + 3) lv st w) : zR C τ ι nL kc ks pc lv (.int y :: .int x :: st) w := by
  obtain ⟨p, l, e, R, s, m, args, below, meth, c, D, A, H0, Q⟩ := C
  obtain ⟨hx, hb, -⟩ := hC
  intro H locs ls hP hD hS hl
  exact lv_icmp_gt hx hb hdg ht (fun hc => kt hc H locs ls hP hD hS hl) (fun hc => kf hc H locs ls hP hD hS hl)
theorem zr_if_le (hC : zOK C τ R own cc nL) {x : Int32} {off : Int} {tgt : Nat} (hdg : decode cc pc = .ok (.ifCond .le off, 3)) (ht : (pc : Int) + off = (tgt : Int)) (kt : x ≤ 0 → zR C τ ι nL kc ks tgt lv st w) (kf : ¬ x ≤ 0 → zR C τ ι nL kc ks (pc + 3) lv st w) : zR C τ ι nL kc ks pc lv (.int x :: st) w := by
  obtain ⟨p, l, e, R, s, m, args, below, meth, c, D, A, H0, Q⟩ := C
  obtain ⟨hx, hb, -⟩ := hC
  intro H locs ls hP hD hS hl
  exact lv_if_le hx hb hdg ht (fun hc => kt hc H locs ls hP hD hS hl) (fun hc => kf hc H locs ls hP hD hS hl)
theorem zr_icmp_le (hC : zOK C τ R own cc nL) {x y : Int32} {off : Int} {tgt : Nat} (hdg : decode cc pc = .ok (.if_icmp .le off, 3)) (ht : (pc : Int) + off = (tgt : Int)) (kt : x ≤ y → zR C τ ι nL kc ks tgt lv st w) (kf : ¬ x ≤ y → zR C τ ι nL kc ks (pc + 3) lv st w) : zR C τ ι nL kc ks pc lv (.int y :: .int x :: st) w := by
  obtain ⟨p, l, e, R, s, m, args, below, meth, c, D, A, H0, Q⟩ := C
  obtain ⟨hx, hb, -⟩ := hC
  intro H locs ls hP hD hS hl
  exact lv_icmp_le hx hb hdg ht (fun hc => kt hc H locs ls hP hD hS hl) (fun hc => kf hc H locs ls hP hD hS hl)
theorem zr_getf (hC : zOK C τ R own cc nL) {index ci a k : Nat} {fs : List Value} {v : Value} (hdg : decode cc pc = .ok (.getfield index, 3)) (hf : zFl own index ci k) (he : w[a]? = some (.inr (ci, fs))) (hv : fs[k]? = some v) (kk : zR C τ ι nL kc ks (pc + 3) lv (v :: st) w) : zR C τ ι nL kc ks pc lv (.ref a :: st) w := by
  obtain ⟨Cn, T, N, hc, hin, hk, hlink⟩ := hf
  obtain ⟨p, l, e, R', s, m, args, below, meth, c, D, A, H0, Q⟩ := C
  obtain ⟨hx, hb, hml, hown, hts, hK, hN, hR, hlk, hA⟩ := hC
  intro H locs ls hP hD hS hl
  exact va_get hx hb hts hin hown hK hP a (zW_get he) hc k hk (hts _ hlink) (fun _ h => h) (v := zcv ι v) (by rw [List.getElem?_map, hv]; rfl) hdg (kk H locs ls hP hD hS hl)
theorem zr_puti (hC : zOK C τ R own cc nL) {index ci a k : Nat} {fs : List Value} {x : Int32} (hdg : decode cc pc = .ok (.putfield index, 3)) (hf : zFl own index ci k) (hp : zFp ci k false .int) (he : w[a]? = some (.inr (ci, fs))) (hl0 : k < fs.length) (kk : zR C τ ι nL kc ks (pc + 3) lv st (w.set a (.inr (ci, fs.set k (.int x))))) : zR C τ ι nL kc ks pc lv (.int x :: .ref a :: st) w := by
  obtain ⟨Cn, T, N, hc, hin, hk, hlink⟩ := hf
  obtain ⟨Cn2, T2, N2, ty0, hc2, hty, hnm, hfin, hdc, hpt⟩ := hp
  cases hc.symm.trans hc2
  obtain ⟨p, l, e, R', s, m, args, below, meth, c, D, A, H0, Q⟩ := C
  obtain ⟨hx, hb, hml, hown, hts, hK, hN, hR, hlk, hA⟩ := hC
  intro H locs ls hP hD hS hl
  refine va_put (v := .int x) hx hb hts hin ty0 hty hnm hown hK hP hD hS a (zW_get he) hc k hk (hts _ hlink) (fun _ h => h) hfin hpt rfl rfl (by simpa using hl0) hdg (fun H1 locs1 hP1 hD1 hS1 => ?_)
  have e : (ι a, (Sum.inr (ci, (fs.map (zcv ι)).set k (.int x)) : va_E)) = (ι a, zca ι τ (.inr (ci, fs.set k (.int x)))) := by rw [zca_o, List.map_set]; rfl
  rw [e, zW_set] at hP1 hD1
  exact kk H1 locs1 ls hP1 hD1 hS1 hl
theorem zr_putz (hC : zOK C τ R own cc nL) {index ci a k : Nat} {fs : List Value} {x : Int32} (hdg : decode cc pc = .ok (.putfield index, 3)) (hf : zFl own index ci k) (hp : zFp ci k false .boolean) (he : w[a]? = some (.inr (ci, fs))) (hl0 : k < fs.length) (hx01 : x = 0 ∨ x = 1) (kk : zR C τ ι nL kc ks (pc + 3) lv st (w.set a (.inr (ci, fs.set k (.int x))))) : zR C τ ι nL kc ks pc lv (.int x :: .ref a :: st) w := by
  obtain ⟨Cn, T, N, hc, hin, hk, hlink⟩ := hf
  obtain ⟨Cn2, T2, N2, ty0, hc2, hty, hnm, hfin, hdc, hpt⟩ := hp
  cases hc.symm.trans hc2
  obtain ⟨p, l, e, R', s, m, args, below, meth, c, D, A, H0, Q⟩ := C
  obtain ⟨hx, hb, hml, hown, hts, hK, hN, hR, hlk, hA⟩ := hC
  intro H locs ls hP hD hS hl
  refine va_put (v := .int x) hx hb hts hin ty0 hty hnm hown hK hP hD hS a (zW_get he) hc k hk (hts _ hlink) (fun _ h => h) hfin hpt (by rcases hx01 with rfl | rfl <;> decide) (by rcases hx01 with rfl | rfl <;> decide) (by simpa using hl0) hdg (fun H1 locs1 hP1 hD1 hS1 => ?_)
  have e : (ι a, (Sum.inr (ci, (fs.map (zcv ι)).set k (.int x)) : va_E)) = (ι a, zca ι τ (.inr (ci, fs.set k (.int x)))) := by rw [zca_o, List.map_set]; rfl
  rw [e, zW_set] at hP1 hD1
  exact kk H1 locs1 ls hP1 hD1 hS1 hl
/-- a final field, in a constructor of its class; or an int that is final nowhere -/
theorem zr_putF (hC : zOK C τ R own cc nL) (hin2 : C.2.2.2.2.2.2.2.2.1.name = "<init>") {index ci a k : Nat} {fs : List Value} {x : Nat} {ty : FieldType} (hdg : decode cc pc = .ok (.putfield index, 3)) (hf : zFl own index ci k) (hp : zFp ci k true ty) (hty2 : (∃ n, ty = .object n) ∨ ∃ t, ty = .array t) (hown2 : ∃ T N, vwCl[ci]? = some (own, T, N)) (he : w[a]? = some (.inr (ci, fs))) (hl0 : k < fs.length) (kk : zR C τ ι nL kc ks (pc + 3) lv st (w.set a (.inr (ci, fs.set k (.ref x))))) : zR C τ ι nL kc ks pc lv (.ref x :: .ref a :: st) w := by
  obtain ⟨Cn, T, N, hc, hin, hk, hlink⟩ := hf
  obtain ⟨Cn2, T2, N2, ty0, hc2, hty, hnm, hfin, hdc, hpt⟩ := hp
  cases hc.symm.trans hc2
  obtain ⟨T3, N3, hc3⟩ := hown2
  cases hc.symm.trans hc3
  obtain ⟨p, l, e, R', s, m, args, below, meth, c, D, A, H0, Q⟩ := C
  obtain ⟨hx, hb, hml, hown, hts, hK, hN, hR, hlk, hA⟩ := hC
  intro H locs ls hP hD hS hl
  refine va_putF (v := .ref (ι x)) hx hb hts hin ty0 hty hnm hown hK hP hD hS a (zW_get he) hc k hk (hts _ hlink) (fun _ h => h) hfin hin2 hdc hpt (by rcases hty2 with ⟨n, rfl⟩ | ⟨t, rfl⟩ <;> rfl) (by rcases hty2 with ⟨n, rfl⟩ | ⟨t, rfl⟩ <;> rfl) (by simpa using hl0) hdg (fun H1 locs1 hP1 hD1 hS1 => ?_)
  have e : (ι a, (Sum.inr (ci, (fs.map (zcv ι)).set k (.ref (ι x))) : va_E)) = (ι a, zca ι τ (.inr (ci, fs.set k (.ref x)))) := by rw [zca_o, List.map_set]; rfl
  rw [e, zW_set] at hP1 hD1
  exact kk H1 locs1 ls hP1 hD1 hS1 hl
theorem zr_iald (hC : zOK C τ R own cc nL) {a n : Nat} {f : Nat → Int32} {i : Int32} (hdg : decode cc pc = .ok (.iaload, 1)) (he : w[a]? = some (.inl (0, n, .inl f))) (hi : vp_in i n) (kk : zR C τ ι nL kc ks (pc + 1) lv (.int (f i.toNatClampNeg) :: st) w) : zR C τ ι nL kc ks pc lv (.int i :: .ref a :: st) w := by
  obtain ⟨p, l, e, R', s, m, args, below, meth, c, D, A, H0, Q⟩ := C
  obtain ⟨hx, hb, hml, hown, hts, hK, hN, hR, hlk, hA⟩ := hC
  intro H locs ls hP hD hS hl
  exact va_iald hx hb hK hP a 0 (zW_get he) rfl hi hdg (kk H locs ls hP hD hS hl)
theorem zr_iast (hC : zOK C τ R own cc nL) {a n : Nat} {f : Nat → Int32} {i : Int32} {x : Int32} (hdg : decode cc pc = .ok (.iastore, 1)) (he : w[a]? = some (.inl (0, n, .inl f))) (hi : vp_in i n) (kk : zR C τ ι nL kc ks (pc + 1) lv st (w.set a (.inl (0, n, .inl (upd f i.toNatClampNeg x))))) : zR C τ ι nL kc ks pc lv (.int x :: .int i :: .ref a :: st) w := by
  obtain ⟨p, l, e, R', s, m, args, below, meth, c, D, A, H0, Q⟩ := C
  obtain ⟨hx, hb, hml, hown, hts, hK, hN, hR, hlk, hA⟩ := hC
  intro H locs ls hP hD hS hl
  refine va_iast hx hb hK hP hD hS a 0 (zW_get he) rfl hi hdg (fun H1 locs1 hP1 hD1 hS1 => ?_)
  have e : (ι a, (Sum.inl (τ 0, n, .inl (upd f i.toNatClampNeg x)) : va_E)) = (ι a, zca ι τ (.inl (0, n, .inl (upd f i.toNatClampNeg x)))) := rfl
  rw [e, zW_set] at hP1 hD1
  exact kk H1 locs1 ls hP1 hD1 hS1 hl
theorem zr_zald (hC : zOK C τ R own cc nL) {a n : Nat} {f : Nat → Int32} {i : Int32} (hdg : decode cc pc = .ok (.baload, 1)) (he : w[a]? = some (.inl (2, n, .inl f))) (hi : vp_in i n) (kk : zR C τ ι nL kc ks (pc + 1) lv (.int (f i.toNatClampNeg) :: st) w) : zR C τ ι nL kc ks pc lv (.int i :: .ref a :: st) w := by
  obtain ⟨p, l, e, R', s, m, args, below, meth, c, D, A, H0, Q⟩ := C
  obtain ⟨hx, hb, hml, hown, hts, hK, hN, hR, hlk, hA⟩ := hC
  intro H locs ls hP hD hS hl
  exact va_zald hx hb hK hP a 2 (zW_get he) rfl hi hdg (kk H locs ls hP hD hS hl)
theorem zr_zast (hC : zOK C τ R own cc nL) {a n : Nat} {f : Nat → Int32} {i : Int32} {x : Int32} (hdg : decode cc pc = .ok (.bastore, 1)) (he : w[a]? = some (.inl (2, n, .inl f))) (hi : vp_in i n) (kk : zR C τ ι nL kc ks (pc + 1) lv st (w.set a (.inl (2, n, .inl (upd f i.toNatClampNeg (vp_nar .boolean x)))))) : zR C τ ι nL kc ks pc lv (.int x :: .int i :: .ref a :: st) w := by
  obtain ⟨p, l, e, R', s, m, args, below, meth, c, D, A, H0, Q⟩ := C
  obtain ⟨hx, hb, hml, hown, hts, hK, hN, hR, hlk, hA⟩ := hC
  intro H locs ls hP hD hS hl
  refine va_zast hx hb hK hP hD hS a 2 (zW_get he) rfl hi hdg (fun H1 locs1 hP1 hD1 hS1 => ?_)
  have e : (ι a, (Sum.inl (τ 2, n, .inl (upd f i.toNatClampNeg (vp_nar .boolean x))) : va_E)) = (ι a, zca ι τ (.inl (2, n, .inl (upd f i.toNatClampNeg (vp_nar .boolean x))))) := rfl
  rw [e, zW_set] at hP1 hD1
  exact kk H1 locs1 ls hP1 hD1 hS1 hl
theorem zr_cald (hC : zOK C τ R own cc nL) {a n : Nat} {f : Nat → Int32} {i : Int32} (hdg : decode cc pc = .ok (.caload, 1)) (he : w[a]? = some (.inl (3, n, .inl f))) (hi : vp_in i n) (kk : zR C τ ι nL kc ks (pc + 1) lv (.int (f i.toNatClampNeg) :: st) w) : zR C τ ι nL kc ks pc lv (.int i :: .ref a :: st) w := by
  obtain ⟨p, l, e, R', s, m, args, below, meth, c, D, A, H0, Q⟩ := C
  obtain ⟨hx, hb, hml, hown, hts, hK, hN, hR, hlk, hA⟩ := hC
  intro H locs ls hP hD hS hl
  exact va_cald hx hb hK hP a 3 (zW_get he) rfl hi hdg (kk H locs ls hP hD hS hl)
theorem zr_cast (hC : zOK C τ R own cc nL) {a n : Nat} {f : Nat → Int32} {i : Int32} {x : Int32} (hdg : decode cc pc = .ok (.castore, 1)) (he : w[a]? = some (.inl (3, n, .inl f))) (hi : vp_in i n) (kk : zR C τ ι nL kc ks (pc + 1) lv st (w.set a (.inl (3, n, .inl (upd f i.toNatClampNeg (vp_nar .char x)))))) : zR C τ ι nL kc ks pc lv (.int x :: .int i :: .ref a :: st) w := by
  obtain ⟨p, l, e, R', s, m, args, below, meth, c, D, A, H0, Q⟩ := C
  obtain ⟨hx, hb, hml, hown, hts, hK, hN, hR, hlk, hA⟩ := hC
  intro H locs ls hP hD hS hl
  refine va_cast hx hb hK hP hD hS a 3 (zW_get he) rfl hi hdg (fun H1 locs1 hP1 hD1 hS1 => ?_)
  have e : (ι a, (Sum.inl (τ 3, n, .inl (upd f i.toNatClampNeg (vp_nar .char x))) : va_E)) = (ι a, zca ι τ (.inl (3, n, .inl (upd f i.toNatClampNeg (vp_nar .char x))))) := rfl
  rw [e, zW_set] at hP1 hD1
  exact kk H1 locs1 ls hP1 hD1 hS1 hl
theorem zr_lald (hC : zOK C τ R own cc nL) {a n : Nat} {f : Nat → Int64} {i : Int32} (hdg : decode cc pc = .ok (.laload, 1)) (he : w[a]? = some (.inl (1, n, .inr (.inl f)))) (hi : vp_in i n) (kk : zR C τ ι nL kc ks (pc + 1) lv (.long (f i.toNatClampNeg) :: st) w) : zR C τ ι nL kc ks pc lv (.int i :: .ref a :: st) w := by
  obtain ⟨p, l, e, R', s, m, args, below, meth, c, D, A, H0, Q⟩ := C
  obtain ⟨hx, hb, hml, hown, hts, hK, hN, hR, hlk, hA⟩ := hC
  intro H locs ls hP hD hS hl
  exact va_lald hx hb hK hP a 1 (zW_get he) rfl hi hdg (kk H locs ls hP hD hS hl)
theorem zr_last (hC : zOK C τ R own cc nL) {a n : Nat} {f : Nat → Int64} {i : Int32} {x : Int64} (hdg : decode cc pc = .ok (.lastore, 1)) (he : w[a]? = some (.inl (1, n, .inr (.inl f)))) (hi : vp_in i n) (kk : zR C τ ι nL kc ks (pc + 1) lv st (w.set a (.inl (1, n, .inr (.inl (vp_updL f i.toNatClampNeg x)))))) : zR C τ ι nL kc ks pc lv (.long x :: .int i :: .ref a :: st) w := by
  obtain ⟨p, l, e, R', s, m, args, below, meth, c, D, A, H0, Q⟩ := C
  obtain ⟨hx, hb, hml, hown, hts, hK, hN, hR, hlk, hA⟩ := hC
  intro H locs ls hP hD hS hl
  refine va_last hx hb hK hP hD hS a 1 (zW_get he) rfl hi hdg (fun H1 locs1 hP1 hD1 hS1 => ?_)
  have e : (ι a, (Sum.inl (τ 1, n, .inr (.inl (vp_updL f i.toNatClampNeg x))) : va_E)) = (ι a, zca ι τ (.inl (1, n, .inr (.inl (vp_updL f i.toNatClampNeg x))))) := rfl
  rw [e, zW_set] at hP1 hD1
  exact kk H1 locs1 ls hP1 hD1 hS1 hl
theorem zr_aald (hC : zOK C τ R own cc nL) {a n t x : Nat} {f : Nat → Option Nat} {i : Int32} (hdg : decode cc pc = .ok (.aaload, 1)) (ht : t = 4 ∨ t = 5) (he : w[a]? = some (.inl (t, n, .inr (.inr (.inr (.inr f)))))) (hi : vp_in i n) (hv : f i.toNatClampNeg = some x) (kk : zR C τ ι nL kc ks (pc + 1) lv (.ref x :: st) w) : zR C τ ι nL kc ks pc lv (.int i :: .ref a :: st) w := by
  obtain ⟨p, l, e, R', s, m, args, below, meth, c, D, A, H0, Q⟩ := C
  obtain ⟨hx, hb, hml, hown, hts, hK, hN, hR, hlk, hA⟩ := hC
  intro H locs ls hP hD hS hl
  have hlt : i.toNatClampNeg < n := Nat.not_le.mp fun q => hi (Or.inr q)
  have e : (Value.ref x :: st).map (zcv ι) = va_rf ((fun j => if j < n then (f j).map ι else none) i.toNatClampNeg) :: st.map (zcv ι) := by
    show _ = va_rf (if i.toNatClampNeg < n then (f i.toNatClampNeg).map ι else none) :: _
    rw [if_pos hlt, hv]; rfl
  have kk2 := kk H locs ls hP hD hS hl
  rw [e] at kk2
  rcases ht with rfl | rfl
  · exact va_aldq (C := RX0) hx hb hK hP a 4 (zW_get he) rfl hi hdg kk2
  · exact va_aldq (C := RX6) hx hb hK hP a 5 (zW_get he) rfl hi hdg kk2
theorem zr_alen (hC : zOK C τ R own cc nL) {a t n : Nat} {x} (hdg : decode cc pc = .ok (.arraylength, 1)) (ht : t < 4) (he : w[a]? = some (.inl (t, n, x))) (kk : zR C τ ι nL kc ks (pc + 1) lv (.int (Int32.ofNat n) :: st) w) : zR C τ ι nL kc ks pc lv (.ref a :: st) w := by
  obtain ⟨p, l, e, R', s, m, args, below, meth, c, D, A, H0, Q⟩ := C
  obtain ⟨hx, hb, hml, hown, hts, hK, hN, hR, hlk, hA⟩ := hC
  intro H locs ls hP hD hS hl
  obtain ⟨y, hy⟩ : ∃ y, zca ι τ (.inl (t, n, x)) = .inl (τ t, n, y) := by
    rcases x with f | f | f | f | f <;> exact ⟨_, rfl⟩
  have hz := zW_get (ι := ι) (τ := τ) he
  rw [hy] at hz
  exact va_alen (x := (n, y)) hx hb hK hP a t hz (ty := zty t) (by rcases (show t = 0 ∨ t = 1 ∨ t = 2 ∨ t = 3 by omega) with rfl | rfl | rfl | rfl <;> rfl) rfl hdg (kk H locs ls hP hD hS hl)
theorem zr_copyi {d mc ms : Nat} (hC : zOK C τ (zrm d mc ms) own cc nL) (hd : 1 ≤ d) {index a b n0 n1 : Nat} {f g : Nat → Int32} {sp dp n : Int32} (hdg : decode cc pc = .ok (.invokestatic index, 3)) (hlink : Cond.methodLink own index arraycopyName ∈ zT) (ha0 : w[a]? = some (.inl (0, n0, .inl f))) (ha1 : w[b]? = some (.inl (0, n1, .inl g))) (h1 : ¬ sp < 0) (h2 : ¬ dp < 0) (h3 : ¬ n < 0) (h4 : sp.toNatClampNeg + n.toNatClampNeg ≤ n0) (h5 : dp.toNatClampNeg + n.toNatClampNeg ≤ n1) (hst : st = []) (kk : zR C τ ι nL kc ks (pc + 3) lv st (w.set b (.inl (0, n1, .inl (va_cpy f g sp.toNatClampNeg dp.toNatClampNeg n.toNatClampNeg))))) : zR C τ ι nL kc ks pc lv (.int n :: .int dp :: .ref b :: .int sp :: .ref a :: st) w := by
  obtain ⟨p, l, e, R', s, m, args, below, meth, c, D, A, H0, Q⟩ := C
  obtain ⟨hx, hb, hml, hown, hts, hK, hN, hR, hlk, hA⟩ := hC
  intro H locs ls hP hD hS hl
  subst hst hR
  refine va_copyi (rest := []) hx hb (hml.trans hl.1.symm) hown (hts _ hlink) (hts _ ac_native) (hts _ ac_static) (hts _ ac_init) hK hP hD hS a b 0 0 (zW_get ha0) (zW_get ha1) rfl rfl rfl h1 h2 h3 h4 h5 (fun _ _ => rfl) (by show 1 ≤ d; exact hd) (by show 0 + (nativeFrameWords "java/lang/System" "arraycopy" 5 + 11) ≤ 37 * d; exact Nat.le_trans (Nat.le_of_ble_eq_true rfl : _ ≤ 37 * 1) (Nat.mul_le_mul_left 37 hd)) hdg (fun H1 locs1 hP1 hD1 hS1 => ?_)
  have e : (ι b, (Sum.inl (τ 0, n1, .inl (va_cpy f g sp.toNatClampNeg dp.toNatClampNeg n.toNatClampNeg)) : va_E)) = (ι b, zca ι τ (.inl (0, n1, .inl (va_cpy f g sp.toNatClampNeg dp.toNatClampNeg n.toNatClampNeg)))) := rfl
  rw [e, zW_set] at hP1 hD1
  exact kk H1 locs1 ls hP1 hD1 hS1 hl
theorem zr_copyl {d mc ms : Nat} (hC : zOK C τ (zrm d mc ms) own cc nL) (hd : 1 ≤ d) {index a b n0 n1 : Nat} {f g : Nat → Int64} {sp dp n : Int32} (hdg : decode cc pc = .ok (.invokestatic index, 3)) (hlink : Cond.methodLink own index arraycopyName ∈ zT) (ha0 : w[a]? = some (.inl (1, n0, .inr (.inl f)))) (ha1 : w[b]? = some (.inl (1, n1, .inr (.inl g)))) (h1 : ¬ sp < 0) (h2 : ¬ dp < 0) (h3 : ¬ n < 0) (h4 : sp.toNatClampNeg + n.toNatClampNeg ≤ n0) (h5 : dp.toNatClampNeg + n.toNatClampNeg ≤ n1) (hst : st = []) (kk : zR C τ ι nL kc ks (pc + 3) lv st (w.set b (.inl (1, n1, .inr (.inl (va_cpy f g sp.toNatClampNeg dp.toNatClampNeg n.toNatClampNeg)))))) : zR C τ ι nL kc ks pc lv (.int n :: .int dp :: .ref b :: .int sp :: .ref a :: st) w := by
  obtain ⟨p, l, e, R', s, m, args, below, meth, c, D, A, H0, Q⟩ := C
  obtain ⟨hx, hb, hml, hown, hts, hK, hN, hR, hlk, hA⟩ := hC
  intro H locs ls hP hD hS hl
  subst hst hR
  refine va_copyl (rest := []) hx hb (hml.trans hl.1.symm) hown (hts _ hlink) (hts _ ac_native) (hts _ ac_static) (hts _ ac_init) hK hP hD hS a b 1 1 (zW_get ha0) (zW_get ha1) rfl rfl rfl h1 h2 h3 h4 h5 (fun _ _ => rfl) (by show 1 ≤ d; exact hd) (by show 0 + (nativeFrameWords "java/lang/System" "arraycopy" 5 + 11) ≤ 37 * d; exact Nat.le_trans (Nat.le_of_ble_eq_true rfl : _ ≤ 37 * 1) (Nat.mul_le_mul_left 37 hd)) hdg (fun H1 locs1 hP1 hD1 hS1 => ?_)
  have e : (ι b, (Sum.inl (τ 1, n1, .inr (.inl (va_cpy f g sp.toNatClampNeg dp.toNatClampNeg n.toNatClampNeg))) : va_E)) = (ι b, zca ι τ (.inl (1, n1, .inr (.inl (va_cpy f g sp.toNatClampNeg dp.toNatClampNeg n.toNatClampNeg))))) := rfl
  rw [e, zW_set] at hP1 hD1
  exact kk H1 locs1 ls hP1 hD1 hS1 hl
end ZR
/-- the cells and the tables behind a method -/
def zB (D : va_G) (ι : Nat → Nat) (τ : Nat → ClassId) (w : List va_E) (A : Nat → Prop) (t : State) : Prop := va_P D vwCl (zW ι τ w) t.heap ∧ va_K D vwCl (ztys τ) t ∧ va_D A (zW ι τ w) ∧ zNw t
def zPc (D : va_G) (ι : Nat → Nat) (τ : Nat → ClassId) (av : List Value) (w : List va_E) (sz : Nat) : Array Value → State → Prop := va_Pc (av.map (zcv ι)) (fun U => U.heap.size = sz ∧ zB D ι τ w (fun _ => True) U)
def zQc (D : va_G) (ι : Nat → Nat) (τ : Nat → ClassId) (Qr : Option Value → List va_E → Prop) (A : Nat → Prop) : Array Value → State → Outcome → State → Prop := fun _ st o t => (∃ (r : Option Value) (w' : List va_E), o = .returned (r.map (zcv ι)) ∧ Qr r w' ∧ zB D ι τ w' A t) ∧ va_F A st t
/-- what a method does, told by a predicate transformer over lists of cells -/
def zMet (y : MethodName) (bytes : ByteArray) (maxL : Nat) (ret : Option FieldType) (d : Nat) (Sp : List Value → List va_E → (Option Value → List va_E → Prop) → Prop) : Prop :=
  maxL ≤ 18 ∧ ∀ (l : Launch) (D : va_G) (ι : Nat → Nat) (τ : Nat → ClassId) (av : List Value) (w : List va_E) (sz : Nat) (Qr : Option Value → List va_E → Prop), Sp av w Qr →
    Met l y (.code y bytes maxL ret :: zT) (zrm d 0 0) (zPc D ι τ av w sz) (zQc D ι τ Qr (va_A (zW ι τ w) sz)) 0 0 (va_A (zW ι τ w) sz)
/-- the end of a method's body -/
def zRet : zCx → (Nat → ClassId) → (Nat → Nat) → Option FieldType → (Option Value → List va_E → Prop) → Prop
  | (_, _, _, _, s, _, args, below, meth, _, D, A, H0, Q), τ, ι, ret, Qr => Q = MQ below (zQc D ι τ Qr A) args s 0 0 A ∧ meth.sig.returnType = ret ∧ H0 = s.heap
theorem zNw_moved {u U : State} (hW : u.WarmedH U.vm) (h : zNw u) : zNw U := by
  intro w hw
  have h1 := h w hw
  simp only [zNest, List.mem_cons, List.mem_nil_iff, or_false] at hw
  rcases hw with rfl | rfl | rfl | rfl | rfl | rfl | rfl | rfl | rfl | rfl <;> exact va_Nw.warmM hW h1
theorem zNw_vm {u U : State} (hv : u.vm = U.vm) (h : zNw u) : zNw U := by
  intro w hw
  have h1 := h w hw
  simp only [zNest, List.mem_cons, List.mem_nil_iff, or_false] at hw
  rcases hw with rfl | rfl | rfl | rfl | rfl | rfl | rfl | rfl | rfl | rfl <;> exact va_Nw.same rfl hv h1
theorem zlv_args (ι : Nat → Nat) : ∀ (av : List Value) (i : Nat), lv_args i (av.map (zcv ι)) = zlv ι (lv_args i av)
  | [], _ => rfl
  | v :: av, i => by
    show (i, zcv ι v) :: lv_args (if (zcv ι v).category = 2 then i + 2 else i + 1) (av.map (zcv ι)) = (i, zcv ι v) :: zlv ι (lv_args (if v.category = 2 then i + 2 else i + 1) av)
    rw [zcat, zlv_args]
theorem zlg (ι : Nat → Nat) (av : List Value) : (lg_sl (av.map (zcv ι))).length = (lg_sl av).length := by
  induction av with
  | nil => rfl
  | cons v av ih =>
    simp only [lg_sl, List.map_cons, List.flatMap_cons, List.length_append] at ih ⊢
    rw [zcat, ih]
    congr 1
    by_cases h : v.category = 2 <;> simp [h]
set_option maxHeartbeats 1000000 in
theorem zMet.of {y : MethodName} {bytes : ByteArray} {maxL d : Nat} {ret : Option FieldType} {Sp : List Value → List va_E → (Option Value → List va_E → Prop) → Prop} (hy : plainName y.cls = true) (h18 : maxL ≤ 18) (hn : ∀ av w Qr, Sp av w Qr → (lg_sl av).length ≤ maxL)
    (body : ∀ (C : zCx) (τ : Nat → ClassId) (ι : Nat → Nat) (av : List Value) (w : List va_E) (Qr : Option Value → List va_E → Prop), Sp av w Qr → zOK C τ (zrm d 0 0) y.cls bytes maxL → zRet C τ ι ret Qr → zR C τ ι maxL 0 0 0 (lv_args 0 av) [] w) : zMet y bytes maxL ret d Sp := by
  refine ⟨h18, fun l D ι τ av w sz Qr hSp => ?_⟩
  refine Met.ofW (cc := bytes) (maxL := maxL) (ret := ret) hy rfl ?_
  intro p e s m args below meth c s₁ B hml hv
  obtain ⟨rfl, hsz, hP, hK, hD0, hN⟩ := hv
  subst hsz
  have hts := atoms_spec (ws := (.code y bytes maxL ret :: zT)) B.pre
  have hD := hD0.self (sz := s.heap.size)
  have hA : ∀ q : Nat, s.heap.size ≤ q → va_A (zW ι τ w) s.heap.size q := fun q h => Or.inr h
  have hl := lv_entry (av.map (zcv ι)) (n := maxL) (by rw [zlg]; exact hn av w Qr hSp)
  rw [lg_entry_eq]
  rw [zlv_args] at hl
  exact body (p, l, e, (headSpec (.code y bytes maxL ret :: zT) (zrm d 0 0)).room, s, m, (av.map (zcv ι)).toArray, below, meth, c, D, va_A (zW ι τ w) s.heap.size, s.heap, MQ below (zQc D ι τ Qr (va_A (zW ι τ w) s.heap.size)) (av.map (zcv ι)).toArray s 0 0 (va_A (zW ι τ w) s.heap.size)) τ ι av w Qr hSp
    ⟨B.exec, B.bytes, hml, findClass_of_methodNamed B.named, fun w hw => hts w (List.mem_cons_of_mem _ hw), hK, hN, rfl, B.notSynchronized, hA⟩ ⟨rfl, B.returns, rfl⟩ s.heap [] _ hP hD va_S.rf hl
theorem zT_in {y : MethodName} {bytes : ByteArray} {maxL : Nat} {ret : Option FieldType} (h : Cond.code y bytes maxL ret ∈ zT) : GoodIn zT (.code y bytes maxL ret :: zT) := by
  intro w hw
  rcases List.mem_cons.mp hw with rfl | hw
  · exact ⟨h, zT_good _ h⟩
  · exact ⟨hw, zT_good _ hw⟩
theorem zcats (ι : Nat → Nat) (st : List Value) : ((st.map (zcv ι)).map fun v => v.category).sum = (st.map fun v => v.category).sum := by
  rw [List.map_map]
  congr 1
  exact List.map_congr_left fun v _ => zcat ι v
theorem zPc_blind {D : va_G} {ι : Nat → Nat} {τ : Nat → ClassId} {av : List Value} {w : List va_E} {sz : Nat} : FrameBlind (zPc D ι τ av w sz) := by
  intro a U g mk q
  obtain ⟨q0, q1, qP, qK, qD, qN⟩ := q
  exact ⟨q0, q1, qP, va_K.moved (u := U) (U := U.calling g mk a) (Vm.Alike.refl U.vm) qK, qD, zNw_vm (u := U) (U := U.calling g mk a) rfl qN⟩
section ZC
variable {C : zCx} {τ : Nat → ClassId} {ι : Nat → Nat} {own : String} {cc : ByteArray} {nL kc ks pc d mc ms : Nat} {lv : List (Nat × Value)} {w : List va_E}
/-- behind a call: the callee's end is the caller's next step -/
theorem zr_back {p : Program} {l : Launch} {e : Env} {R : Room} {s : State} {m : MethodId} {args : Array Value} {below : List Frame} {meth : Method} {c : Code} {D : va_G} {A : Nat → Prop} {H0 : Heap} {Q : State → Prop} {H : Heap} {locs : List Loc} {ls : Array Slot} {a : Array Value} {rest st0 : List Value} {Qr : Option Value → List va_E → Prop}
    (hr : va_Run p l e R s m args below meth c H locs kc ks 0 0 (F0 m pc ls st0) (rest.map (zcv ι)) (zQc D ι τ Qr (va_A (zW ι τ w) H.size) a) (va_A (zW ι τ w) H.size)) (hP : va_P D vwCl (zW ι τ w) H) (hD : va_D A (zW ι τ w)) (hS : va_S A H0 H locs) (hA : ∀ q, H0.size ≤ q → A q) (hl : lv_has ls nL (zlv ι lv))
    (kk : ∀ r w', Qr r w' → zR (p, l, e, R, s, m, args, below, meth, c, D, A, H0, Q) τ ι nL kc ks (pc + 3) lv (r.toList ++ rest) w') : W p l e R s m args below meth c H locs kc ks Q (F0 m pc ls st0) := by
  have hF : ∀ q, va_A (zW ι τ w) H.size q → A q := by
    intro q hq
    rcases hq with ⟨k, e, hk⟩ | hq
    · exact hD.2 k (q, e) hk
    · exact hA q (Nat.le_trans hS.1 hq)
  intro T hT X
  obtain ⟨v, st₀, t, T', L, h0, X', hL, e1, e2, ⟨⟨r, w', hv, hq, hP1, hK1, hD1, hN1⟩, hz, hk⟩, st⟩ := hr T hT X
  cases hv
  rw [h0] at hz hk
  have hS' : va_S A H0 T'.heap (locs ++ L) := by
    refine ⟨Nat.le_trans hS.1 (by rw [e1]; exact hz), fun q h1 h2 => ?_, fun q hq => ?_⟩
    · rw [e1, hk q (Nat.lt_of_lt_of_le h1 hS.1) (fun z => h2 (hF q z))]
      exact hS.2.1 q h1 h2
    · rcases List.mem_append.mp hq with h | h
      · exact hS.2.2 q h
      · exact hF _ (hL q h)
  have k2 := kk r w' hq T'.heap (locs ++ L) ls (by rw [e1]; exact hP1) (hD1.weaken (fun k q _ h => hF q.1 h)) hS' hl
  have es : (r.toList ++ rest).map (zcv ι) = (r.map (zcv ι)).toList ++ rest.map (zcv ι) := by cases r <;> simp
  rw [es] at k2
  obtain ⟨t2, a1, b1⟩ := k2 T' rfl X'
  exact ⟨t2, st t2 a1, b1⟩
theorem zr_callV (hC : zOK C τ (zrm d mc ms) own cc nL) {y : MethodName} {bytes : ByteArray} {maxL d' n index b ci : Nat} {ret : Option FieldType} {Sp} {As rest fs : List Value} (hdg : decode cc pc = .ok (.invokevirtual index, 3)) (hlink : Cond.methodLink own index y ∈ zT) (hm : zMv y bytes maxL ret n) (hM : zMet y bytes maxL ret d' Sp) (hd : d' + 1 ≤ d) (hkc : kc ≤ mc) (hks : ks ≤ ms) (hn : As.length = n) (he : w[b]? = some (.inr (ci, fs))) (hcl : (vwCl[ci]?).map (fun q => q.1) = some y.cls) (hrest : (rest.map fun v => v.category).sum ≤ 8)
    (kk : Sp (.ref b :: As) w (fun r w' => zR C τ ι nL kc ks (pc + 3) lv (r.toList ++ rest) w')) {st0 : List Value} (hst : st0 = As.reverse ++ .ref b :: rest) : zR C τ ι nL kc ks pc lv st0 w := by
  subst hst
  obtain ⟨p, l, e, R', s, m, args, below, meth, c, D, A, H0, Q⟩ := C
  obtain ⟨hx, hb, hml, hown, hts, hK, hN, hR, hlk, hA⟩ := hC
  subst hR
  intro H locs ls hP hD hS hl
  obtain ⟨h18, hM⟩ := hM
  have hM' := hM l D ι τ (.ref b :: As) w H.size _ kk
  obtain ⟨hcode, hini, hins, hsel, hd1, hd2, hd3⟩ := hm
  obtain ⟨q, hq, hq1⟩ := Option.map_eq_some_iff.mp hcl
  have cw : CallW (zrm d mc ms) s args own y.cls index y bytes maxL ret (.code y bytes maxL ret :: zT) (zrm d' 0 0) 0 0 n := ⟨callB_of n hts (zT_in hcode) rfl rfl rfl (hts _ hini) (hts _ hlink) ⟨hd1, hd2, hd3⟩ ⟨hd, by show 8 + (maxL + 11) + 37 * d' ≤ 37 * d; omega⟩, hts _ hins, hts _ hsel⟩
  refine zr_back (va_runV (As := As.map (zcv ι)) (rest := rest.map (zcv ι)) (b := ι b) ⟨hx, hb, hml, hown, hts⟩ hM' cw ⟨zPc_blind, ?_, fun U hU hW => ⟨rfl, by rw [hU], by rw [hU]; exact hP, va_K.moved hW.alike hK, hD.weaken (fun _ _ _ _ => trivial), zNw_moved hW hN⟩⟩ rfl (by simpa using hn) hl.1 ?_ (by show 2 * 0 + _ ≤ 8; rw [zcats]; omega) hdg ⟨by show kc + 0 ≤ mc; omega, by show ks + 0 ≤ ms; omega⟩) hP hD hS hA hl (fun r w' h => h)
  · rw [← hq1]
    exact va_recv hK hP hq (zW_get he)
  · simp [List.map_reverse, zcv]
theorem zr_callS (hC : zOK C τ (zrm d mc ms) own cc nL) {y : MethodName} {bytes : ByteArray} {maxL d' n index : Nat} {ret : Option FieldType} {Sp} {As rest : List Value} (hdg : decode cc pc = .ok (.invokestatic index, 3)) (hlink : Cond.methodLink own index y ∈ zT) (hm : zMs y bytes maxL ret n) (hM : zMet y bytes maxL ret d' Sp) (hd : d' + 1 ≤ d) (hkc : kc ≤ mc) (hks : ks ≤ ms) (hn : As.length = n) (hrest : (rest.map fun v => v.category).sum ≤ 8)
    (kk : Sp As w (fun r w' => zR C τ ι nL kc ks (pc + 3) lv (r.toList ++ rest) w')) {st0 : List Value} (hst : st0 = As.reverse ++ rest) : zR C τ ι nL kc ks pc lv st0 w := by
  subst hst
  obtain ⟨p, l, e, R', s, m, args, below, meth, c, D, A, H0, Q⟩ := C
  obtain ⟨hx, hb, hml, hown, hts, hK, hN, hR, hlk, hA⟩ := hC
  subst hR
  intro H locs ls hP hD hS hl
  obtain ⟨h18, hM⟩ := hM
  have hM' := hM l D ι τ As w H.size _ kk
  obtain ⟨hcode, hini, hins, hd1, hd2, hd3⟩ := hm
  have cw : CallB (zrm d mc ms) s args own index y bytes maxL ret (.code y bytes maxL ret :: zT) (zrm d' 0 0) 0 0 n ∧ (Cond.static y).before args s = true := ⟨callB_of n hts (zT_in hcode) rfl rfl rfl (hts _ hini) (hts _ hlink) ⟨hd1, hd2, hd3⟩ ⟨hd, by show 8 + (maxL + 11) + 37 * d' ≤ 37 * d; omega⟩, hts _ hins⟩
  refine zr_back (va_runS (As := As.map (zcv ι)) (rest := rest.map (zcv ι)) ⟨hx, hb, hml, hown, hts⟩ hM' cw ⟨zPc_blind, fun U hU hW => ⟨rfl, by rw [hU], by rw [hU]; exact hP, va_K.moved hW.alike hK, hD.weaken (fun _ _ _ _ => trivial), zNw_moved hW hN⟩⟩ rfl (by simpa using hn) hl.1 ?_ (by show 2 * 0 + _ ≤ 8; rw [zcats]; omega) hdg ⟨by show kc + 0 ≤ mc; omega, by show ks + 0 ≤ ms; omega⟩) hP hD hS hA hl (fun r w' h => h)
  simp [List.map_reverse]
theorem zr_callSN (hC : zOK C τ (zrm d mc ms) own cc nL) {y : MethodName} {bytes : ByteArray} {maxL d' n index : Nat} {host : String} {ret : Option FieldType} {Sp} {As rest : List Value} (hdg : decode cc pc = .ok (.invokestatic index, 3)) (hlink : Cond.methodLinkNest own index y host ∈ zNest) (hm : zMs y bytes maxL ret n) (hM : zMet y bytes maxL ret d' Sp) (hd : d' + 1 ≤ d) (hkc : kc ≤ mc) (hks : ks ≤ ms) (hn : As.length = n) (hrest : (rest.map fun v => v.category).sum ≤ 8)
    (kk : Sp As w (fun r w' => zR C τ ι nL kc ks (pc + 3) lv (r.toList ++ rest) w')) {st0 : List Value} (hst : st0 = As.reverse ++ rest) : zR C τ ι nL kc ks pc lv st0 w := by
  subst hst
  obtain ⟨p, l, e, R', s, m, args, below, meth, c, D, A, H0, Q⟩ := C
  obtain ⟨hx, hb, hml, hown, hts, hK, hN, hR, hlk, hA⟩ := hC
  subst hR
  intro H locs ls hP hD hS hl
  obtain ⟨h18, hM⟩ := hM
  have hM' := hM l D ι τ As w H.size _ kk
  obtain ⟨hcode, hini, hins, hd1, hd2, hd3⟩ := hm
  have cw : va_CN (zrm d mc ms) s args own index y host bytes maxL ret (.code y bytes maxL ret :: zT) (zrm d' 0 0) 0 0 n ∧ (Cond.static y).before args s = true ∧ True := ⟨va_cnB n hts (zT_in hcode) rfl rfl rfl (hN _ hlink) (hts _ hini) ⟨hd1, hd2, hd3⟩ ⟨hd, by show 8 + (maxL + 11) + 37 * d' ≤ 37 * d; omega⟩, hts _ hins, trivial⟩
  refine zr_back (va_runSN (As := As.map (zcv ι)) (rest := rest.map (zcv ι)) ⟨hx, hb, hml, hown, hts⟩ hM' cw ⟨zPc_blind, fun U hU hW => ⟨rfl, by rw [hU], by rw [hU]; exact hP, va_K.moved hW.alike hK, hD.weaken (fun _ _ _ _ => trivial), zNw_moved hW hN⟩⟩ rfl (by simpa using hn) hl.1 ?_ (by show 2 * 0 + _ ≤ 8; rw [zcats]; omega) hdg ⟨by show kc + 0 ≤ mc; omega, by show ks + 0 ≤ ms; omega⟩) hP hD hS hA hl (fun r w' h => h)
  simp [List.map_reverse]
variable {Qr : Option Value → List va_E → Prop} {R : Room}
theorem zr_ireturn (hC : zOK C τ R own cc nL) (hE : zRet C τ ι (some .int) Qr) {x : Int32} (hdg : decode cc pc = .ok (.ireturn, 1)) (hq : Qr (some (.int x)) w) : zR C τ ι nL 0 0 pc lv [.int x] w := by
  obtain ⟨p, l, e, R', s, m, args, below, meth, c, D, A, H0, Q⟩ := C
  obtain ⟨hx, hb, hml, hown, hts, hK, hN, hR, hlk, hA⟩ := hC
  obtain ⟨rfl, hr, rfl⟩ := hE
  intro H locs ls hP hD hS hl
  exact W.iret (v := x) hx hb hr (fun t ht hW => ⟨⟨some (.int x), w, rfl, hq, by rw [ht]; exact hP, va_K.moved hW.alike hK, hD, zNw_moved hW hN⟩, hS.F ht⟩) hS.2.2 hdg
theorem zr_zreturn (hC : zOK C τ R own cc nL) (hE : zRet C τ ι (some .boolean) Qr) {x : Int32} (hdg : decode cc pc = .ok (.ireturn, 1)) (h01 : x = 0 ∨ x = 1) (hq : Qr (some (.int x)) w) : zR C τ ι nL 0 0 pc lv [.int x] w := by
  obtain ⟨p, l, e, R', s, m, args, below, meth, c, D, A, H0, Q⟩ := C
  obtain ⟨hx, hb, hml, hown, hts, hK, hN, hR, hlk, hA⟩ := hC
  obtain ⟨rfl, hr, rfl⟩ := hE
  intro H locs ls hP hD hS hl
  exact W.zret (v := x) hx hb hr (by rcases h01 with rfl | rfl <;> decide) (fun t ht hW => ⟨⟨some (.int x), w, rfl, hq, by rw [ht]; exact hP, va_K.moved hW.alike hK, hD, zNw_moved hW hN⟩, hS.F ht⟩) hS.2.2 hdg
theorem zr_lreturn (hC : zOK C τ R own cc nL) (hE : zRet C τ ι (some .long) Qr) {x : Int64} (hdg : decode cc pc = .ok (.lreturn, 1)) (hq : Qr (some (.long x)) w) : zR C τ ι nL 0 0 pc lv [.long x] w := by
  obtain ⟨p, l, e, R', s, m, args, below, meth, c, D, A, H0, Q⟩ := C
  obtain ⟨hx, hb, hml, hown, hts, hK, hN, hR, hlk, hA⟩ := hC
  obtain ⟨rfl, hr, rfl⟩ := hE
  intro H locs ls hP hD hS hl
  exact W.lret (v := x) hx hb hr (fun t ht hW => ⟨⟨some (.long x), w, rfl, hq, by rw [ht]; exact hP, va_K.moved hW.alike hK, hD, zNw_moved hW hN⟩, hS.F ht⟩) hS.2.2 hdg
theorem zr_vreturn (hC : zOK C τ R own cc nL) (hE : zRet C τ ι none Qr) (hdg : decode cc pc = .ok (.return_, 1)) (hq : Qr none w) : zR C τ ι nL 0 0 pc lv [] w := by
  obtain ⟨p, l, e, R', s, m, args, below, meth, c, D, A, H0, Q⟩ := C
  obtain ⟨hx, hb, hml, hown, hts, hK, hN, hR, hlk, hA⟩ := hC
  obtain ⟨rfl, hr, rfl⟩ := hE
  intro H locs ls hP hD hS hl
  exact W.vret hx hb hr (fun t ht hW => ⟨⟨none, w, rfl, hq, by rw [ht]; exact hP, va_K.moved hW.alike hK, hD, zNw_moved hW hN⟩, hS.F ht⟩) hS.2.2 hdg
end ZC
end
section
/-! THE STATE: all ints of all cells by place and index, all longs likewise; the cells' shapes never change behind the constructors -/
abbrev zS : Type := (Nat → Nat → Int32) × (Nat → Nat → Int64)
/-- an object: its class, its fields (a reference, or an int); an array of ints, booleans, chars, longs: its type, its length; an array of references -/
abbrev zTm : Type := (Nat × List (Option Nat)) ⊕ (Nat × Nat) ⊕ (Nat × List Nat)
def zbookSh (b : Nat) : Nat → zTm
  | 0 => .inl (0, [some (b + 1), some (b + 4), some (b + 9), none, none, none, none, none, some (b + 13), some (b + 14), some (b + 15)])
  | 1 => .inl (5, [some (b + 2), some (b + 3)])
  | 2 => .inr (.inl (0, 16))
  | 3 => .inr (.inl (0, 32))
  | 4 => .inl (1, [none, some (b + 5), some (b + 6), some (b + 7), some (b + 8)])
  | 5 => .inr (.inl (0, 232))
  | 6 => .inr (.inl (0, 232))
  | 7 => .inr (.inl (0, 232))
  | 8 => .inr (.inl (0, 32))
  | 9 => .inl (2, [none, some (b + 10), some (b + 11), some (b + 12)])
  | 10 => .inr (.inl (0, 192))
  | 11 => .inr (.inl (0, 192))
  | 12 => .inr (.inl (0, 192))
  | _ => .inr (.inl (0, 16))
def zmodSh : Nat → zTm
  | 0 => .inl (9, [some 246, some 247, some 248, some 249, some 250, some 251, none, none, none, some 252, none, some 253, some 254, none, some 255, some 256, some 257, some 258, some 259])
  | 1 => .inr (.inl (0, 752))
  | 2 => .inr (.inl (0, 16))
  | 3 => .inr (.inl (2, 32))
  | 4 => .inr (.inl (2, 32))
  | 5 => .inr (.inl (2, 230))
  | 6 => .inr (.inl (0, 90))
  | 7 => .inr (.inl (0, 4512))
  | 8 => .inr (.inl (0, 752))
  | 9 => .inr (.inl (0, 4512))
  | 10 => .inr (.inl (0, 4))
  | 11 => .inr (.inl (0, 4))
  | 12 => .inr (.inl (1, 96))
  | 13 => .inr (.inl (1, 24))
  | _ => .inr (.inl (2, 230))
def zrestSh : Nat → zTm
  | 0 => .inl (7, [some 230, none])
  | 1 => .inr (.inl (3, 90))
  | 2 => .inr (.inr (5, [237, 239, 241, 243]))
  | 3 => .inl (5, [some 233, some 234])
  | 4 => .inr (.inl (0, 16))
  | 5 => .inr (.inl (0, 32))
  | 6 => .inl (4, [some 236, none])
  | _ => .inr (.inl (2, 232))
def zsh (a : Nat) : zTm :=
  if a = 0 then .inl (8, [some 1, some 17, some 115, some 131, none, some 229, some 231, some 232, some 235])
  else if a < 17 then zbookSh 1 (a - 1)
  else if a = 17 then .inl (3, [some 18, none, none])
  else if a = 18 then .inr (.inr (4, [19, 35, 51, 67, 83, 99]))
  else if a < 115 then zbookSh (19 + 16 * ((a - 19) / 16)) ((a - 19) % 16)
  else if a < 131 then zbookSh 115 (a - 115)
  else if a = 131 then .inl (3, [some 132, none, none])
  else if a = 132 then .inr (.inr (4, [133, 149, 165, 181, 197, 213]))
  else if a < 229 then zbookSh (133 + 16 * ((a - 133) / 16)) ((a - 133) % 16)
  else if a < 237 then zrestSh (a - 229)
  else if a < 245 then (if (a - 237) % 2 = 0 then .inl (6, [some (a + 1), none, none]) else .inr (.inl (1, 24)))
  else zmodSh (a - 245)
def zcell (S : zS) (a : Nat) : va_E := match zsh a with
  | .inl (ci, fl) => .inr (ci, fl.mapIdx fun k o => match o with | some r => .ref r | none => .int (S.1 a k))
  | .inr (.inl (t, n)) => if t = 1 then .inl (1, n, .inr (.inl (S.2 a))) else .inl (t, n, .inl (S.1 a))
  | .inr (.inr (t, ids)) => .inl (t, ids.length, .inr (.inr (.inr (.inr (fun j => ids[j]?)))))
def zcells (S : zS) : List va_E := (List.range 260).map (zcell S)
/-- a field of a place: its class, and the reference in it, if it is one -/
def zfd (a k : Nat) : Option (Nat × Option Nat) := match zsh a with
  | .inl (ci, fl) => (fl[k]?).map fun o => (ci, o)
  | _ => none
def zar (a : Nat) : Option (Nat × Nat) := match zsh a with
  | .inr (.inl x) => some x
  | _ => none
def zra (a : Nat) : Option (Nat × List Nat) := match zsh a with
  | .inr (.inr x) => some x
  | _ => none
def zput (S : zS) (a k : Nat) (x : Int32) : zS := (fun a' k' => if a' = a ∧ k' = k then x else S.1 a' k', S.2)
def zputL (S : zS) (a k : Nat) (x : Int64) : zS := (S.1, fun a' k' => if a' = a ∧ k' = k then x else S.2 a' k')
/-- n items of a from sp on come to b from dp on -/
def zcpy (S : zS) (a sp b dp n : Nat) : zS := (fun a' k' => if a' = b ∧ dp ≤ k' ∧ k' < dp + n then S.1 a (sp + (k' - dp)) else S.1 a' k', S.2)
def zcpyL (S : zS) (a sp b dp n : Nat) : zS := (S.1, fun a' k' => if a' = b ∧ dp ≤ k' ∧ k' < dp + n then S.2 a (sp + (k' - dp)) else S.2 a' k')
theorem zc_at (S : zS) {a : Nat} (h : a < 260) : (zcells S)[a]? = some (zcell S a) := by simp [zcells, List.getElem?_map, List.getElem?_range, h]
theorem zc_set {S S' : zS} {a : Nat} {e : va_E} (h1 : zcell S' a = e) (h2 : ∀ k, k ≠ a → zcell S' k = zcell S k) : (zcells S).set a e = zcells S' := by
  apply List.ext_getElem?
  intro j
  by_cases hj : a = j
  · subst hj
    by_cases hl : a < 260
    · rw [List.getElem?_set_self (by simpa [zcells] using hl), zc_at S' hl, h1]
    · simp [zcells, List.getElem?_set, hl]
  · rw [List.getElem?_set_ne hj]
    by_cases hl : j < 260
    · rw [zc_at S hl, zc_at S' hl, h2 j (Ne.symm hj)]
    · simp [zcells, hl]
theorem zcell_ext {S S' : zS} {a : Nat} (h1 : S'.1 a = S.1 a) (h2 : S'.2 a = S.2 a) : zcell S' a = zcell S a := by
  unfold zcell
  rw [h1, h2]
theorem zfd_sh {a k ci : Nat} {o : Option Nat} (h : zfd a k = some (ci, o)) : ∃ fl, zsh a = .inl (ci, fl) ∧ fl[k]? = some o := by
  unfold zfd at h
  split at h
  next ci' fl e =>
    obtain ⟨o', h1, h2⟩ := Option.map_eq_some_iff.mp h
    cases h2
    exact ⟨fl, e, h1⟩
  next => cases h
theorem zar_sh {a : Nat} {x : Nat × Nat} (h : zar a = some x) : zsh a = .inr (.inl x) := by
  unfold zar at h
  split at h
  next x' e => cases h; exact e
  next => cases h
theorem zra_sh {a : Nat} {x : Nat × List Nat} (h : zra a = some x) : zsh a = .inr (.inr x) := by
  unfold zra at h
  split at h
  next x' e => cases h; exact e
  next => cases h
theorem zput_ne (S : zS) {a k a' : Nat} (x : Int32) (h : a' ≠ a) : (zput S a k x).1 a' = S.1 a' := by
  funext j
  simp [zput, h]
theorem zputL_ne (S : zS) {a k a' : Nat} (x : Int64) (h : a' ≠ a) : (zputL S a k x).2 a' = S.2 a' := by
  funext j
  simp [zputL, h]
theorem zput_arr (S : zS) (a k : Nat) (x : Int32) : (zput S a k x).1 a = upd (S.1 a) k x := by
  funext j
  simp [zput, upd]
theorem zputL_arr (S : zS) (a k : Nat) (x : Int64) : (zputL S a k x).2 a = vp_updL (S.2 a) k x := by
  funext j
  simp [zputL, vp_updL]
theorem zset_o {S : zS} {a k ci : Nat} {fl : List (Option Nat)} (x : Int32) (hs : zsh a = .inl (ci, fl)) (hk : fl[k]? = some none) : (zcells S).set a (.inr (ci, (fl.mapIdx fun k o => match o with | some r => Value.ref r | none => .int (S.1 a k)).set k (.int x))) = zcells (zput S a k x) := by
  refine zc_set ?_ (fun j hj => zcell_ext (zput_ne S x hj) rfl)
  unfold zcell
  rw [hs]
  simp only
  congr 2
  apply List.ext_getElem?
  intro j
  rw [List.getElem?_set, List.getElem?_mapIdx, List.getElem?_mapIdx]
  by_cases hj : k = j
  · subst hj
    have hl : k < fl.length := (List.getElem?_eq_some_iff.mp hk).1
    have hk2 : fl[k] = none := by have := List.getElem?_eq_getElem hl; rw [hk] at this; exact (Option.some.inj this).symm
    simp [hk2, hl, zput]
  · rw [if_neg hj]
    congr 1
    funext o
    cases o with
    | some r => rfl
    | none => simp [zput, Ne.symm hj]
theorem zset_a {S : zS} {a k t n : Nat} (x : Int32) (hs : zsh a = .inr (.inl (t, n))) (ht : t ≠ 1) : (zcells S).set a (.inl (t, n, .inl (upd (S.1 a) k x))) = zcells (zput S a k x) := by
  refine zc_set ?_ (fun j hj => zcell_ext (zput_ne S x hj) rfl)
  unfold zcell
  rw [hs]
  simp only [if_neg ht, zput_arr]
theorem zset_l {S : zS} {a k n : Nat} (x : Int64) (hs : zsh a = .inr (.inl (1, n))) : (zcells S).set a (.inl (1, n, .inr (.inl (vp_updL (S.2 a) k x)))) = zcells (zputL S a k x) := by
  refine zc_set ?_ (fun j hj => zcell_ext rfl (zputL_ne S x hj))
  unfold zcell
  rw [hs]
  simp only [if_pos, zputL_arr]
theorem zset_c {S : zS} {a b sp dp n N : Nat} (hs : zsh b = .inr (.inl (0, N))) : (zcells S).set b (.inl (0, N, .inl (va_cpy (S.1 a) (S.1 b) sp dp n))) = zcells (zcpy S a sp b dp n) := by
  refine zc_set ?_ (fun j hj => zcell_ext (by funext k; simp [zcpy, hj]) rfl)
  unfold zcell
  rw [hs]
  have e : (zcpy S a sp b dp n).1 b = va_cpy (S.1 a) (S.1 b) sp dp n := by funext k; simp [zcpy, va_cpy]
  simp only [e]
  rfl
theorem zset_cl {S : zS} {a b sp dp n N : Nat} (hs : zsh b = .inr (.inl (1, N))) : (zcells S).set b (.inl (1, N, .inr (.inl (va_cpy (S.2 a) (S.2 b) sp dp n)))) = zcells (zcpyL S a sp b dp n) := by
  refine zc_set ?_ (fun j hj => zcell_ext rfl (by funext k; simp [zcpyL, hj]))
  unfold zcell
  rw [hs]
  have e : (zcpyL S a sp b dp n).2 b = va_cpy (S.2 a) (S.2 b) sp dp n := by funext k; simp [zcpyL, va_cpy]
  simp only [e, if_pos]
theorem nI_toNat {n : Nat} (h : n < 2147483648) : (nI n).toNatClampNeg = n := by
  show (nI n).toInt.toNat = n
  rw [nI_toInt h]
  omega
theorem vp_in_n {j n : Nat} (h : j < n) (hn : n < 2147483648) : vp_in (nI j) n := vp_in_nI h (by omega)
section ZS
variable {C : zCx} {τ : Nat → ClassId} {ι : Nat → Nat} {R : Room} {own : String} {cc : ByteArray} {nL kc ks pc : Nat} {lv : List (Nat × Value)} {st : List Value} {S : zS}
theorem zs_getr (hC : zOK C τ R own cc nL) {index ci a k r : Nat} (hdg : decode cc pc = .ok (.getfield index, 3)) (hf : zFl own index ci k) (hz : zfd a k = some (ci, some r)) (ha : a < 260) (kk : zR C τ ι nL kc ks (pc + 3) lv (.ref r :: st) (zcells S)) : zR C τ ι nL kc ks pc lv (.ref a :: st) (zcells S) := by
  obtain ⟨fl, h1, h2⟩ := zfd_sh hz
  exact zr_getf hC hdg hf ((zc_at S ha).trans (by unfold zcell; rw [h1])) (by rw [List.getElem?_mapIdx, h2]; rfl) kk
theorem zs_geti (hC : zOK C τ R own cc nL) {index ci a k : Nat} (hdg : decode cc pc = .ok (.getfield index, 3)) (hf : zFl own index ci k) (hz : zfd a k = some (ci, none)) (ha : a < 260) (kk : zR C τ ι nL kc ks (pc + 3) lv (.int (S.1 a k) :: st) (zcells S)) : zR C τ ι nL kc ks pc lv (.ref a :: st) (zcells S) := by
  obtain ⟨fl, h1, h2⟩ := zfd_sh hz
  exact zr_getf hC hdg hf ((zc_at S ha).trans (by unfold zcell; rw [h1])) (by rw [List.getElem?_mapIdx, h2]; rfl) kk
theorem zs_puti (hC : zOK C τ R own cc nL) {index ci a k : Nat} {x : Int32} (hdg : decode cc pc = .ok (.putfield index, 3)) (hf : zFl own index ci k) (hp : zFp ci k false .int) (hz : zfd a k = some (ci, none)) (ha : a < 260) (kk : zR C τ ι nL kc ks (pc + 3) lv st (zcells (zput S a k x))) : zR C τ ι nL kc ks pc lv (.int x :: .ref a :: st) (zcells S) := by
  obtain ⟨fl, h1, h2⟩ := zfd_sh hz
  refine zr_puti hC hdg hf hp ((zc_at S ha).trans (by unfold zcell; rw [h1])) (by rw [List.length_mapIdx]; exact (List.getElem?_eq_some_iff.mp h2).1) ?_
  rw [zset_o x h1 h2]
  exact kk
theorem zs_putz (hC : zOK C τ R own cc nL) {index ci a k : Nat} {x : Int32} (hdg : decode cc pc = .ok (.putfield index, 3)) (hf : zFl own index ci k) (hp : zFp ci k false .boolean) (hz : zfd a k = some (ci, none)) (ha : a < 260) (h01 : x = 0 ∨ x = 1) (kk : zR C τ ι nL kc ks (pc + 3) lv st (zcells (zput S a k x))) : zR C τ ι nL kc ks pc lv (.int x :: .ref a :: st) (zcells S) := by
  obtain ⟨fl, h1, h2⟩ := zfd_sh hz
  refine zr_putz hC hdg hf hp ((zc_at S ha).trans (by unfold zcell; rw [h1])) (by rw [List.length_mapIdx]; exact (List.getElem?_eq_some_iff.mp h2).1) h01 ?_
  rw [zset_o x h1 h2]
  exact kk
theorem zc_arr {a t n : Nat} (hz : zar a = some (t, n)) (ht : t ≠ 1) (ha : a < 260) : (zcells S)[a]? = some (.inl (t, n, .inl (S.1 a))) := (zc_at S ha).trans (by unfold zcell; rw [zar_sh hz]; simp only [if_neg ht])
theorem zc_arl {a n : Nat} (hz : zar a = some (1, n)) (ha : a < 260) : (zcells S)[a]? = some (.inl (1, n, .inr (.inl (S.2 a)))) := (zc_at S ha).trans (by unfold zcell; rw [zar_sh hz]; simp only [if_pos])
theorem zs_iald (hC : zOK C τ R own cc nL) {a n j : Nat} {i : Int32} (hdg : decode cc pc = .ok (.iaload, 1)) (hz : zar a = some (0, n)) (hn : n ≤ 5000) (ha : a < 260) (hi : i = nI j) (hj : j < n) (kk : zR C τ ι nL kc ks (pc + 1) lv (.int (S.1 a j) :: st) (zcells S)) : zR C τ ι nL kc ks pc lv (.int i :: .ref a :: st) (zcells S) := by
  subst hi
  refine zr_iald hC hdg (zc_arr hz (by decide) ha) (vp_in_n hj (by omega)) ?_
  rw [nI_toNat (by omega)]
  exact kk
theorem zs_zald (hC : zOK C τ R own cc nL) {a n j : Nat} {i : Int32} (hdg : decode cc pc = .ok (.baload, 1)) (hz : zar a = some (2, n)) (hn : n ≤ 5000) (ha : a < 260) (hi : i = nI j) (hj : j < n) (kk : zR C τ ι nL kc ks (pc + 1) lv (.int (S.1 a j) :: st) (zcells S)) : zR C τ ι nL kc ks pc lv (.int i :: .ref a :: st) (zcells S) := by
  subst hi
  refine zr_zald hC hdg (zc_arr hz (by decide) ha) (vp_in_n hj (by omega)) ?_
  rw [nI_toNat (by omega)]
  exact kk
theorem zs_cald (hC : zOK C τ R own cc nL) {a n j : Nat} {i : Int32} (hdg : decode cc pc = .ok (.caload, 1)) (hz : zar a = some (3, n)) (hn : n ≤ 5000) (ha : a < 260) (hi : i = nI j) (hj : j < n) (kk : zR C τ ι nL kc ks (pc + 1) lv (.int (S.1 a j) :: st) (zcells S)) : zR C τ ι nL kc ks pc lv (.int i :: .ref a :: st) (zcells S) := by
  subst hi
  refine zr_cald hC hdg (zc_arr hz (by decide) ha) (vp_in_n hj (by omega)) ?_
  rw [nI_toNat (by omega)]
  exact kk
theorem zs_lald (hC : zOK C τ R own cc nL) {a n j : Nat} {i : Int32} (hdg : decode cc pc = .ok (.laload, 1)) (hz : zar a = some (1, n)) (hn : n ≤ 5000) (ha : a < 260) (hi : i = nI j) (hj : j < n) (kk : zR C τ ι nL kc ks (pc + 1) lv (.long (S.2 a j) :: st) (zcells S)) : zR C τ ι nL kc ks pc lv (.int i :: .ref a :: st) (zcells S) := by
  subst hi
  refine zr_lald hC hdg (zc_arl hz ha) (vp_in_n hj (by omega)) ?_
  rw [nI_toNat (by omega)]
  exact kk
theorem zs_iast (hC : zOK C τ R own cc nL) {a n j : Nat} {i x : Int32} (hdg : decode cc pc = .ok (.iastore, 1)) (hz : zar a = some (0, n)) (hn : n ≤ 5000) (ha : a < 260) (hi : i = nI j) (hj : j < n) (kk : zR C τ ι nL kc ks (pc + 1) lv st (zcells (zput S a j x))) : zR C τ ι nL kc ks pc lv (.int x :: .int i :: .ref a :: st) (zcells S) := by
  subst hi
  refine zr_iast hC hdg (zc_arr hz (by decide) ha) (vp_in_n hj (by omega)) ?_
  rw [nI_toNat (by omega), zset_a x (zar_sh hz) (by decide)]
  exact kk
theorem zs_zast (hC : zOK C τ R own cc nL) {a n j : Nat} {i x : Int32} (hdg : decode cc pc = .ok (.bastore, 1)) (hz : zar a = some (2, n)) (hn : n ≤ 5000) (ha : a < 260) (hi : i = nI j) (hj : j < n) (h01 : x = 0 ∨ x = 1) (kk : zR C τ ι nL kc ks (pc + 1) lv st (zcells (zput S a j x))) : zR C τ ι nL kc ks pc lv (.int x :: .int i :: .ref a :: st) (zcells S) := by
  subst hi
  refine zr_zast hC hdg (zc_arr hz (by decide) ha) (vp_in_n hj (by omega)) ?_
  rw [show vp_nar .boolean x = x by rcases h01 with rfl | rfl <;> decide +kernel, nI_toNat (by omega), zset_a x (zar_sh hz) (by decide)]
  exact kk
theorem zs_cast (hC : zOK C τ R own cc nL) {a n j : Nat} {i x : Int32} (hdg : decode cc pc = .ok (.castore, 1)) (hz : zar a = some (3, n)) (hn : n ≤ 5000) (ha : a < 260) (hi : i = nI j) (hj : j < n) (hx : vp_nar .char x = x) (kk : zR C τ ι nL kc ks (pc + 1) lv st (zcells (zput S a j x))) : zR C τ ι nL kc ks pc lv (.int x :: .int i :: .ref a :: st) (zcells S) := by
  subst hi
  refine zr_cast hC hdg (zc_arr hz (by decide) ha) (vp_in_n hj (by omega)) ?_
  rw [hx, nI_toNat (by omega), zset_a x (zar_sh hz) (by decide)]
  exact kk
theorem zs_last (hC : zOK C τ R own cc nL) {a n j : Nat} {i : Int32} {x : Int64} (hdg : decode cc pc = .ok (.lastore, 1)) (hz : zar a = some (1, n)) (hn : n ≤ 5000) (ha : a < 260) (hi : i = nI j) (hj : j < n) (kk : zR C τ ι nL kc ks (pc + 1) lv st (zcells (zputL S a j x))) : zR C τ ι nL kc ks pc lv (.long x :: .int i :: .ref a :: st) (zcells S) := by
  subst hi
  refine zr_last hC hdg (zc_arl hz ha) (vp_in_n hj (by omega)) ?_
  rw [nI_toNat (by omega), zset_l x (zar_sh hz)]
  exact kk
theorem zs_aald (hC : zOK C τ R own cc nL) {a t j x : Nat} {ids : List Nat} {i : Int32} (hdg : decode cc pc = .ok (.aaload, 1)) (hz : zra a = some (t, ids)) (ht : t = 4 ∨ t = 5) (hn : ids.length ≤ 5000) (ha : a < 260) (hi : i = nI j) (hj : ids[j]? = some x) (kk : zR C τ ι nL kc ks (pc + 1) lv (.ref x :: st) (zcells S)) : zR C τ ι nL kc ks pc lv (.int i :: .ref a :: st) (zcells S) := by
  subst hi
  have hl : j < ids.length := (List.getElem?_eq_some_iff.mp hj).1
  exact zr_aald hC hdg ht ((zc_at S ha).trans (by unfold zcell; rw [zra_sh hz])) (vp_in_n hl (by omega)) (by rw [nI_toNat (by omega)]; exact hj) kk
theorem zs_alen (hC : zOK C τ R own cc nL) {a t n : Nat} (hdg : decode cc pc = .ok (.arraylength, 1)) (hz : zar a = some (t, n)) (ht : t < 4) (ha : a < 260) (kk : zR C τ ι nL kc ks (pc + 1) lv (.int (nI n) :: st) (zcells S)) : zR C τ ι nL kc ks pc lv (.ref a :: st) (zcells S) := by
  by_cases h1 : t = 1
  · subst h1
    exact zr_alen hC hdg ht (zc_arl hz ha) kk
  · exact zr_alen hC hdg ht (zc_arr hz h1 ha) kk
theorem zs_copyi {d mc ms : Nat} (hC : zOK C τ (zrm d mc ms) own cc nL) (hd : 1 ≤ d) {index a b n0 n1 sp dp n : Nat} {isp idp inn : Int32} (hdg : decode cc pc = .ok (.invokestatic index, 3)) (hlink : Cond.methodLink own index arraycopyName ∈ zT) (hz0 : zar a = some (0, n0)) (hz1 : zar b = some (0, n1)) (ha : a < 260) (hb : b < 260) (hn0 : n0 ≤ 5000) (hn1 : n1 ≤ 5000) (e1 : isp = nI sp) (e2 : idp = nI dp) (e3 : inn = nI n) (h4 : sp + n ≤ n0) (h5 : dp + n ≤ n1) (kk : zR C τ ι nL kc ks (pc + 3) lv [] (zcells (zcpy S a sp b dp n))) : zR C τ ι nL kc ks pc lv [.int inn, .int idp, .ref b, .int isp, .ref a] (zcells S) := by
  subst e1 e2 e3
  have hp : ∀ {q : Nat}, q < 2147483648 → ¬ nI q < 0 := fun {q} hq => by rw [Int32.lt_iff_toInt_lt, nI_toInt hq]; simp
  refine zr_copyi hC hd hdg hlink (zc_arr hz0 (by decide) ha) (zc_arr hz1 (by decide) hb) (hp (by omega)) (hp (by omega)) (hp (by omega)) (by rw [nI_toNat (by omega), nI_toNat (by omega)]; exact h4) (by rw [nI_toNat (by omega), nI_toNat (by omega)]; exact h5) rfl ?_
  rw [nI_toNat (by omega), nI_toNat (by omega), nI_toNat (by omega), zset_c (zar_sh hz1)]
  exact kk
theorem zs_copyl {d mc ms : Nat} (hC : zOK C τ (zrm d mc ms) own cc nL) (hd : 1 ≤ d) {index a b n0 n1 sp dp n : Nat} {isp idp inn : Int32} (hdg : decode cc pc = .ok (.invokestatic index, 3)) (hlink : Cond.methodLink own index arraycopyName ∈ zT) (hz0 : zar a = some (1, n0)) (hz1 : zar b = some (1, n1)) (ha : a < 260) (hb : b < 260) (hn0 : n0 ≤ 5000) (hn1 : n1 ≤ 5000) (e1 : isp = nI sp) (e2 : idp = nI dp) (e3 : inn = nI n) (h4 : sp + n ≤ n0) (h5 : dp + n ≤ n1) (kk : zR C τ ι nL kc ks (pc + 3) lv [] (zcells (zcpyL S a sp b dp n))) : zR C τ ι nL kc ks pc lv [.int inn, .int idp, .ref b, .int isp, .ref a] (zcells S) := by
  subst e1 e2 e3
  have hp : ∀ {q : Nat}, q < 2147483648 → ¬ nI q < 0 := fun {q} hq => by rw [Int32.lt_iff_toInt_lt, nI_toInt hq]; simp
  refine zr_copyl hC hd hdg hlink (zc_arl hz0 ha) (zc_arl hz1 hb) (hp (by omega)) (hp (by omega)) (hp (by omega)) (by rw [nI_toNat (by omega), nI_toNat (by omega)]; exact h4) (by rw [nI_toNat (by omega), nI_toNat (by omega)]; exact h5) rfl ?_
  rw [nI_toNat (by omega), nI_toNat (by omega), nI_toNat (by omega), zset_cl (zar_sh hz1)]
  exact kk
end ZS
/-- a contract over states -/
abbrev zSp : Type := List Value → zS → (Option Value → zS → Prop) → Prop
def zLs (Sp : zSp) : List Value → List va_E → (Option Value → List va_E → Prop) → Prop := fun av w Q => ∃ S, w = zcells S ∧ Sp av S (fun r S' => Q r (zcells S'))
def zM (y : MethodName) (bytes : ByteArray) (maxL : Nat) (ret : Option FieldType) (d : Nat) (Sp : zSp) : Prop := zMet y bytes maxL ret d (zLs Sp)
theorem zM.of {y : MethodName} {bytes : ByteArray} {maxL d : Nat} {ret : Option FieldType} {Sp : zSp} (hy : plainName y.cls = true) (h18 : maxL ≤ 18) (hn : ∀ av S Q, Sp av S Q → (lg_sl av).length ≤ maxL)
    (body : ∀ (C : zCx) (τ : Nat → ClassId) (ι : Nat → Nat) (av : List Value) (S : zS) (Q : Option Value → zS → Prop) (Qr : Option Value → List va_E → Prop), Sp av S Q → (∀ r S', Q r S' → Qr r (zcells S')) → zOK C τ (zrm d 0 0) y.cls bytes maxL → zRet C τ ι ret Qr → zR C τ ι maxL 0 0 0 (lv_args 0 av) [] (zcells S)) : zM y bytes maxL ret d Sp := by
  refine zMet.of hy h18 (fun av w Qr ⟨S, _, h⟩ => hn av S _ h) (fun C τ ι av w Qr ⟨S, hw, h⟩ hC hE => ?_)
  subst hw
  exact body C τ ι av S _ Qr h (fun _ _ h => h) hC hE
section ZK
variable {C : zCx} {τ : Nat → ClassId} {ι : Nat → Nat} {own : String} {cc : ByteArray} {nL kc ks pc d mc ms : Nat} {lv : List (Nat × Value)} {S : zS}
theorem zs_callV (hC : zOK C τ (zrm d mc ms) own cc nL) {y : MethodName} {bytes : ByteArray} {maxL d' n index b ci : Nat} {ret : Option FieldType} {Sp : zSp} (As rest : List Value) (hdg : decode cc pc = .ok (.invokevirtual index, 3)) (hlink : Cond.methodLink own index y ∈ zT) (hm : zMv y bytes maxL ret n) (hM : zM y bytes maxL ret d' Sp) (hd : d' + 1 ≤ d) (hkc : kc ≤ mc) (hks : ks ≤ ms) (hn : As.length = n) {fl} (he : zsh b = .inl (ci, fl)) (hb : b < 260) (hcl : (vwCl[ci]?).map (fun q => q.1) = some y.cls) (hrest : (rest.map fun v => v.category).sum ≤ 8) {st0 : List Value} (hst : st0 = As.reverse ++ .ref b :: rest)
    (kk : Sp (.ref b :: As) S (fun r S' => zR C τ ι nL kc ks (pc + 3) lv (r.toList ++ rest) (zcells S'))) : zR C τ ι nL kc ks pc lv st0 (zcells S) :=
  zr_callV hC (As := As) (rest := rest) hdg hlink hm hM hd hkc hks hn ((zc_at S hb).trans (by unfold zcell; rw [he])) hcl hrest ⟨S, rfl, kk⟩ hst
theorem zs_callS (hC : zOK C τ (zrm d mc ms) own cc nL) {y : MethodName} {bytes : ByteArray} {maxL d' n index : Nat} {ret : Option FieldType} {Sp : zSp} (As rest : List Value) (hdg : decode cc pc = .ok (.invokestatic index, 3)) (hlink : Cond.methodLink own index y ∈ zT) (hm : zMs y bytes maxL ret n) (hM : zM y bytes maxL ret d' Sp) (hd : d' + 1 ≤ d) (hkc : kc ≤ mc) (hks : ks ≤ ms) (hn : As.length = n) (hrest : (rest.map fun v => v.category).sum ≤ 8) {st0 : List Value} (hst : st0 = As.reverse ++ rest)
    (kk : Sp As S (fun r S' => zR C τ ι nL kc ks (pc + 3) lv (r.toList ++ rest) (zcells S'))) : zR C τ ι nL kc ks pc lv st0 (zcells S) :=
  zr_callS hC (As := As) (rest := rest) hdg hlink hm hM hd hkc hks hn hrest ⟨S, rfl, kk⟩ hst
theorem zs_callSN (hC : zOK C τ (zrm d mc ms) own cc nL) {y : MethodName} {bytes : ByteArray} {maxL d' n index : Nat} {host : String} {ret : Option FieldType} {Sp : zSp} (As rest : List Value) (hdg : decode cc pc = .ok (.invokestatic index, 3)) (hlink : Cond.methodLinkNest own index y host ∈ zNest) (hm : zMs y bytes maxL ret n) (hM : zM y bytes maxL ret d' Sp) (hd : d' + 1 ≤ d) (hkc : kc ≤ mc) (hks : ks ≤ ms) (hn : As.length = n) (hrest : (rest.map fun v => v.category).sum ≤ 8) {st0 : List Value} (hst : st0 = As.reverse ++ rest)
    (kk : Sp As S (fun r S' => zR C τ ι nL kc ks (pc + 3) lv (r.toList ++ rest) (zcells S'))) : zR C τ ι nL kc ks pc lv st0 (zcells S) :=
  zr_callSN hC (As := As) (rest := rest) hdg hlink hm hM hd hkc hks hn hrest ⟨S, rfl, kk⟩ hst
end ZK
end
section
/-! rows on bits, shifts and unsigned numbers, to paste: each family out of a closed proof of our own, whole with what it rests on; each by itself clean at Lean in its own claim (generation 39, form 5). Take a family whole -/
/-! ===== Int32 by its bits: bt x i ===== -/
def bt (x : Int32) (i : Nat) : Bool := x.toBitVec.getLsbD i
theorem b_ext {x y : Int32} (h : ∀ i, i < 32 → bt x i = bt y i) : x = y := Int32.toBitVec_inj.mp (BitVec.eq_of_getLsbD_eq (fun i hi => h i hi))
theorem b_or (x y : Int32) (i : Nat) : bt (x ||| y) i = (bt x i || bt y i) := by unfold bt; rw [Int32.toBitVec_or, BitVec.getLsbD_or]
theorem b_and (x y : Int32) (i : Nat) : bt (x &&& y) i = (bt x i && bt y i) := by unfold bt; rw [Int32.toBitVec_and, BitVec.getLsbD_and]
theorem b_xor (x y : Int32) (i : Nat) : bt (x ^^^ y) i = (bt x i ^^ bt y i) := by unfold bt; rw [Int32.toBitVec_xor, BitVec.getLsbD_xor]
theorem b_big {x : Int32} {i : Nat} (h : 32 ≤ i) : bt x i = false := BitVec.getLsbD_of_ge _ _ h
theorem b_255 (i : Nat) : bt 255 i = decide (i < 8) := by
  rcases Nat.lt_or_ge i 32 with h | h
  · exact (by decide +kernel : ∀ i, i < 32 → bt 255 i = decide (i < 8)) i h
  · rw [b_big h, decide_eq_false (by omega)]
theorem b_65535 (i : Nat) : bt 65535 i = decide (i < 16) := by
  rcases Nat.lt_or_ge i 32 with h | h
  · exact (by decide +kernel : ∀ i, i < 32 → bt 65535 i = decide (i < 16)) i h
  · rw [b_big h, decide_eq_false (by omega)]
theorem b_m1 : ∀ i, i < 32 → bt (-1) i = true := by decide +kernel
theorem b_0 (i : Nat) : bt 0 i = false := BitVec.getLsbD_zero
theorem s_l : ∀ n, n < 32 → ((nI n &&& 31).toBitVec.smod 32).toNat = n := by decide +kernel
theorem s_u : ∀ n, n < 32 → (((nI n).toUInt32 &&& Int32.toUInt32 31).toBitVec % 32).toNat = n := by decide +kernel
theorem b_shl (n : Nat) (hn : n < 32) (x : Int32) {i : Nat} (hi : i < 32) : bt (x <<< (nI n &&& 31)) i = (decide (n ≤ i) && bt x (i - n)) := by
  unfold bt
  rw [Int32.toBitVec_shiftLeft]
  show (x.toBitVec <<< ((nI n &&& 31).toBitVec.smod 32).toNat).getLsbD i = _
  rw [s_l n hn, BitVec.getLsbD_shiftLeft]
  rcases Nat.lt_or_ge i n with h | h
  · simp [h, Nat.not_le.mpr h]
  · simp [hi, h, Nat.not_lt.mpr h]
theorem b_ushr (n : Nat) (hn : n < 32) (x : Int32) (i : Nat) : bt ((x.toUInt32 >>> ((nI n).toUInt32 &&& Int32.toUInt32 31)).toInt32) i = bt x (n + i) := by
  show (x.toUInt32 >>> ((nI n).toUInt32 &&& Int32.toUInt32 31)).toBitVec.getLsbD i = x.toUInt32.toBitVec.getLsbD (n + i)
  rw [UInt32.toBitVec_shiftRight]
  show (x.toUInt32.toBitVec >>> (((nI n).toUInt32 &&& Int32.toUInt32 31).toBitVec % 32).toNat).getLsbD i = _
  rw [s_u n hn, BitVec.getLsbD_ushiftRight]
theorem b_sshr (n : Nat) (hn : n < 32) (x : Int32) {i : Nat} (hi : i < 32) : bt (x >>> (nI n &&& 31)) i = if n + i < 32 then bt x (n + i) else bt x 31 := by
  unfold bt
  rw [Int32.toBitVec_shiftRight]
  show (x.toBitVec.sshiftRight ((nI n &&& 31).toBitVec.smod 32).toNat).getLsbD i = _
  rw [s_l n hn, BitVec.getLsbD_sshiftRight, BitVec.msb_eq_getLsbD_last]
  simp [hi]
theorem b_shl8 (x : Int32) {i : Nat} (hi : i < 32) : bt (x <<< ((8 : Int32) &&& 31)) i = (decide (8 ≤ i) && bt x (i - 8)) := b_shl 8 (by omega) x hi
theorem b_shl16 (x : Int32) {i : Nat} (hi : i < 32) : bt (x <<< ((16 : Int32) &&& 31)) i = (decide (16 ≤ i) && bt x (i - 16)) := b_shl 16 (by omega) x hi
theorem b_shl24 (x : Int32) {i : Nat} (hi : i < 32) : bt (x <<< ((24 : Int32) &&& 31)) i = (decide (24 ≤ i) && bt x (i - 24)) := b_shl 24 (by omega) x hi
theorem b_sshr8 (x : Int32) {i : Nat} (hi : i < 32) : bt (x >>> ((8 : Int32) &&& 31)) i = if 8 + i < 32 then bt x (8 + i) else bt x 31 := b_sshr 8 (by omega) x hi
/-! ===== nI under and, xor, >>>, one bit, 65535 ===== -/
theorem nx_and (a b : Nat) : nI a &&& nI b = nI (a &&& b) := by
  apply Int32.toBitVec_inj.1
  show BitVec.ofNat 32 a &&& BitVec.ofNat 32 b = BitVec.ofNat 32 (a &&& b)
  apply BitVec.eq_of_getLsbD_eq
  intro i hi
  simp [hi]
theorem nx_xor (a b : Nat) : nI a ^^^ nI b = nI (a ^^^ b) := by
  apply Int32.toBitVec_inj.1
  show BitVec.ofNat 32 a ^^^ BitVec.ofNat 32 b = BitVec.ofNat 32 (a ^^^ b)
  apply BitVec.eq_of_getLsbD_eq
  intro i hi
  simp [hi]
theorem nx_cnt : ∀ j : Fin 32, (UInt32.ofNat j.val &&& Int32.toUInt32 31).toNat % 32 = j.val := by decide +kernel
theorem nx_ush {k j : Nat} (hk : k < 65536) (hj : j < 32) : ((nI k).toUInt32 >>> ((nI j).toUInt32 &&& Int32.toUInt32 31)).toInt32 = nI (k >>> j) := by
  have hs : k >>> j ≤ k := by
    rw [Nat.shiftRight_eq_div_pow]
    exact Nat.div_le_self _ _
  have e2 : UInt32.ofNat k >>> (UInt32.ofNat j &&& Int32.toUInt32 31) = UInt32.ofNat (k >>> j) := by
    apply UInt32.toNat_inj.1
    have h1 : (UInt32.ofNat k).toNat = k := Nat.mod_eq_of_lt (by omega)
    have h2 : (UInt32.ofNat (k >>> j)).toNat = k >>> j := Nat.mod_eq_of_lt (by omega)
    rw [UInt32.toNat_shiftRight, nx_cnt ⟨j, hj⟩, h1, h2]
  show (UInt32.ofNat k >>> (UInt32.ofNat j &&& Int32.toUInt32 31)).toInt32 = _
  rw [e2]
  rfl
theorem nx_bit {k j : Nat} (hk : k < 65536) (hj : j < 16) : (((nI k).toUInt32 >>> ((nI j).toUInt32 &&& Int32.toUInt32 31)).toInt32 &&& 1) = 0 ↔ k.testBit j = false := by
  rw [nx_ush hk (by omega)]
  show nI (k >>> j) &&& nI 1 = 0 ↔ _
  rw [nx_and, Nat.and_one_is_mod, ← nI_0, nI_eq (by omega) (by omega), Nat.testBit_eq_decide_div_mod_eq, Nat.shiftRight_eq_div_pow, decide_eq_false_iff_not]
  generalize k / 2 ^ j = z
  omega
theorem nx_mod (k : Nat) : nI k &&& 65535 = nI (k % 65536) := by
  show nI k &&& nI 65535 = _
  rw [nx_and, show (65535 : Nat) = 2 ^ 16 - 1 from rfl, Nat.and_two_pow_sub_one_eq_mod]
theorem nx_m16 {k : Nat} (h : k < 65536) : nI k &&& 65535 = nI k := by rw [nx_mod, Nat.mod_eq_of_lt h]
theorem nx_mask (x : Int32) : ∃ k, k < 65536 ∧ x &&& 65535 = nI k := by
  have e : x = nI x.toBitVec.toNat := by
    apply Int32.toBitVec_inj.1
    show x.toBitVec = BitVec.ofNat 32 x.toBitVec.toNat
    simp
  refine ⟨x.toBitVec.toNat % 65536, Nat.mod_lt _ (by omega), ?_⟩
  rw [← nx_mod, ← e]
/-! ===== Int32 as a set of bits: test, set ===== -/
def nf_M (m : Int32) : Nat := 4294967296 - m.toBitVec.toNat
end
section
/-! plain facts on numbers and arrays, to paste: each family by itself; over the kit's rows on nI and upd -/
/-! ===== order of ints, in all its forms, and through longs ===== -/
theorem fa_lt (a b : Int32) : a < b ↔ a.toInt < b.toInt := Int32.lt_iff_toInt_lt
theorem fa_le (a b : Int32) : a ≤ b ↔ a.toInt ≤ b.toInt := Int32.le_iff_toInt_le
theorem fa_eq (a b : Int32) : a = b ↔ a.toInt = b.toInt := Int32.toInt_inj.symm
theorem fa_lt64 (a b : Int64) : a < b ↔ a.toInt < b.toInt := Int64.lt_iff_toInt_lt
theorem fa_le64 (a b : Int64) : a ≤ b ↔ a.toInt ≤ b.toInt := Int64.le_iff_toInt_le
theorem fa_eq64 (a b : Int64) : a = b ↔ a.toInt = b.toInt := Int64.toInt_inj.symm
/-- a comparison of two ints taken as longs -/
theorem fa_wide_lt (a b : Int32) : a.toInt64 < b.toInt64 ↔ a < b := by rw [fa_lt64, fa_lt, Int32.toInt_toInt64, Int32.toInt_toInt64]
theorem fa_wide_le (a b : Int32) : a.toInt64 ≤ b.toInt64 ↔ a ≤ b := by rw [fa_le64, fa_le, Int32.toInt_toInt64, Int32.toInt_toInt64]
theorem fa_wide_eq (a b : Int32) : a.toInt64 = b.toInt64 ↔ a = b := by rw [fa_eq64, fa_eq, Int32.toInt_toInt64, Int32.toInt_toInt64]
/-- one strict comparison gives all the others -/
theorem fa_of_lt {a b : Int32} (h : a < b) : a ≤ b ∧ ¬ b ≤ a ∧ ¬ b < a ∧ a ≠ b ∧ b ≠ a := by
  rw [fa_lt] at h
  refine ⟨?_, ?_, ?_, ?_, ?_⟩
  · rw [fa_le]; omega
  · rw [fa_le]; omega
  · rw [fa_lt]; omega
  · intro e; rw [fa_eq] at e; omega
  · intro e; rw [fa_eq] at e; omega
theorem fa_of_nlt {a b : Int32} (h : ¬ a < b) : b ≤ a := by
  rw [fa_lt] at h
  rw [fa_le]
  omega
theorem fa_of_nle {a b : Int32} (h : ¬ a ≤ b) : b < a := by
  rw [fa_le] at h
  rw [fa_lt]
  omega
theorem fa_le_ne {a b : Int32} (h : a ≤ b) (h2 : a ≠ b) : a < b := by
  rw [fa_le] at h
  rw [fa_lt]
  have h3 : a.toInt ≠ b.toInt := fun e => h2 ((fa_eq a b).mpr e)
  omega
theorem fa_three (a b : Int32) : a < b ∨ a = b ∨ b < a := by
  rw [fa_lt, fa_lt, fa_eq]
  omega
theorem fa_trans {a b c : Int32} (h : a < b) (h2 : b ≤ c) : a < c := by
  rw [fa_lt] at *
  rw [fa_le] at h2
  omega
/-! ===== small literals as numbers ===== -/
theorem fa_lit (n : Nat) : (OfNat.ofNat n : Int32) = nI n := rfl
theorem fa_litL (n : Nat) : (OfNat.ofNat n : Int64) = lN n := rfl
/-! ===== bits of a number: 'or', masks, one bit ===== -/
theorem fa_and (a b : Nat) : nI a &&& nI b = nI (a &&& b) := by
  apply Int32.toBitVec_inj.1
  show BitVec.ofNat 32 a &&& BitVec.ofNat 32 b = BitVec.ofNat 32 (a &&& b)
  apply BitVec.eq_of_getLsbD_eq
  intro i hi
  simp [hi]
theorem fa_or (a b : Nat) : nI a ||| nI b = nI (a ||| b) := by
  apply Int32.toBitVec_inj.1
  show BitVec.ofNat 32 a ||| BitVec.ofNat 32 b = BitVec.ofNat 32 (a ||| b)
  apply BitVec.eq_of_getLsbD_eq
  intro i hi
  simp [hi]
/-- a remainder by a power of two, as a mask -/
theorem fa_mask (n k : Nat) : nI n &&& nI (2 ^ k - 1) = nI (n % 2 ^ k) := by rw [fa_and, Nat.and_two_pow_sub_one_eq_mod]
/-- 'or' of a high part and a low one that don't meet is their sum -/
theorem fa_or_sum {a k : Nat} (b : Nat) (h : a < 2 ^ k) : nI (2 ^ k * b) ||| nI a = nI (2 ^ k * b + a) := by rw [fa_or, Nat.two_pow_add_eq_or_of_lt h]
/-- one bit, by 'and' with a power of two -/
theorem fa_bit {n j : Nat} (hj : j < 31) : nI n &&& nI (2 ^ j) = 0 ↔ n.testBit j = false := by
  have h2 : (2 : Nat) ^ j < 2 ^ 31 := Nat.pow_lt_pow_right (by decide) hj
  have hle : n &&& 2 ^ j ≤ 2 ^ j := Nat.and_le_right
  have e : n &&& 2 ^ j = 0 ↔ n.testBit j = false := by
    constructor
    · intro h
      have h1 : (n &&& 2 ^ j).testBit j = false := by rw [h]; simp
      rw [Nat.testBit_and] at h1
      first | simpa using h1 | simpa [Nat.testBit_two_pow_self] using h1 | simpa [Nat.testBit_two_pow] using h1
    · intro h
      apply Nat.eq_of_testBit_eq
      intro i
      rw [Nat.testBit_and]
      by_cases hi : j = i
      · subst hi; simp [h]
      · first | (simp [Nat.testBit_two_pow, hi]; done) | (simp [Nat.testBit_two_pow_of_ne hi]; done)
  rw [fa_and]
  constructor
  · intro h
    apply e.mp
    rcases Nat.eq_zero_or_pos (n &&& 2 ^ j) with z | z
    · exact z
    · exact absurd h (nI_ne0 z (Nat.lt_of_le_of_lt hle h2))
  · intro h
    rw [e.mpr h]; exact nI_0
/-- a remainder by a power of two of a number that isn't negative, as Java divides -/
theorem fa_rem {a k : Nat} (ha : a < 2 ^ 31) (hk : k < 31) : nI a - nI a / nI (2 ^ k) * nI (2 ^ k) = nI (a % 2 ^ k) := pk_rem ha (Nat.two_pow_pos k) (Nat.pow_lt_pow_right (by decide) hk)
/-! ===== cuts to a byte, a short ===== -/
theorem fa_byte_xor (x y : Int32) : (x ^^^ y).toInt8 = x.toInt8 ^^^ y.toInt8 := by
  apply Int8.toBitVec_inj.1
  apply BitVec.eq_of_getLsbD_eq
  intro i hi
  first | (simp [hi]; done) | (simp [hi, BitVec.getLsbD_setWidth, BitVec.getLsbD_signExtend]; done)
theorem fa_short_xor (x y : Int32) : (x ^^^ y).toInt16 = x.toInt16 ^^^ y.toInt16 := by
  apply Int16.toBitVec_inj.1
  apply BitVec.eq_of_getLsbD_eq
  intro i hi
  first | (simp [hi]; done) | (simp [hi, BitVec.getLsbD_setWidth, BitVec.getLsbD_signExtend]; done)
/-- the cut to a byte sees the low byte alone -/
theorem fa_byte_low (x : Int32) : (x &&& 255).toInt8 = x.toInt8 := by
  apply Int8.toBitVec_inj.1
  apply BitVec.eq_of_getLsbD_eq
  intro i hi
  have h2 : (255 : Int32).toBitVec.getLsbD i = true := by
    have : ∀ j : Fin 8, (255 : Int32).toBitVec.getLsbD j.val = true := by decide +kernel
    exact this ⟨i, hi⟩
  have h4 : (x &&& 255).toBitVec.getLsbD i = x.toBitVec.getLsbD i := by
    show (x.toBitVec &&& (255 : Int32).toBitVec).getLsbD i = _
    rw [BitVec.getLsbD_and, h2, Bool.and_true]
  have h3 : i < 32 := by omega
  first
    | (show (((x &&& 255).toBitVec).signExtend 8).getLsbD i = (x.toBitVec.signExtend 8).getLsbD i; rw [BitVec.getLsbD_signExtend, BitVec.getLsbD_signExtend, if_pos h3, if_pos h3, h4])
    | (show (((x &&& 255).toBitVec).setWidth 8).getLsbD i = (x.toBitVec.setWidth 8).getLsbD i; rw [BitVec.getLsbD_setWidth, BitVec.getLsbD_setWidth, h4])
    | (simp [hi, h3, h4]; done)
theorem fa_short_low (x : Int32) : (x &&& 65535).toInt16 = x.toInt16 := by
  apply Int16.toBitVec_inj.1
  apply BitVec.eq_of_getLsbD_eq
  intro i hi
  have h2 : (65535 : Int32).toBitVec.getLsbD i = true := by
    have : ∀ j : Fin 16, (65535 : Int32).toBitVec.getLsbD j.val = true := by decide +kernel
    exact this ⟨i, hi⟩
  have h4 : (x &&& 65535).toBitVec.getLsbD i = x.toBitVec.getLsbD i := by
    show (x.toBitVec &&& (65535 : Int32).toBitVec).getLsbD i = _
    rw [BitVec.getLsbD_and, h2, Bool.and_true]
  have h3 : i < 32 := by omega
  first
    | (show (((x &&& 65535).toBitVec).signExtend 16).getLsbD i = (x.toBitVec.signExtend 16).getLsbD i; rw [BitVec.getLsbD_signExtend, BitVec.getLsbD_signExtend, if_pos h3, if_pos h3, h4])
    | (show (((x &&& 65535).toBitVec).setWidth 16).getLsbD i = (x.toBitVec.setWidth 16).getLsbD i; rw [BitVec.getLsbD_setWidth, BitVec.getLsbD_setWidth, h4])
    | (simp [hi, h3, h4]; done)
/-- a small number is its own byte, its own short -/
theorem fa_byte_small {n : Nat} (h : n < 128) : (nI n).toInt8.toInt32 = nI n := by
  have : ∀ j : Fin 128, (nI j.val).toInt8.toInt32 = nI j.val := by decide +kernel
  exact this ⟨n, h⟩
/-! ===== absolute difference ===== -/
theorem fa_absdiff {a b : Nat} (ha : a < 2 ^ 31) (hb : b < 2 ^ 31) : (if nI a < nI b then nI b - nI a else nI a - nI b) = nI (if a < b then b - a else a - b) := by
  by_cases h : a < b
  · rw [if_pos (nI_lt h hb), if_pos h]
    exact pk_sub (Nat.le_of_lt h)
  · rw [if_neg (nI_nlt (Nat.le_of_not_lt h) ha), if_neg h]
    exact pk_sub (Nat.le_of_not_lt h)
/-! ===== an array behind i stores, a conditional store, a row copied ===== -/
/-- f where k < i, what stood there else -/
def fa_fill {α : Type} (f g : Nat → α) (i : Nat) : Nat → α := fun k => if k < i then f k else g k
theorem fa_fill_0 {α : Type} (f g : Nat → α) : fa_fill f g 0 = g := funext fun k => if_neg (Nat.not_lt_zero k)
theorem fa_fill_in {α : Type} {f g : Nat → α} {i k : Nat} (h : k < i) : fa_fill f g i k = f k := if_pos h
theorem fa_fill_out {α : Type} {f g : Nat → α} {i k : Nat} (h : i ≤ k) : fa_fill f g i k = g k := if_neg (Nat.not_lt.mpr h)
theorem fa_fill_succ (f g : Nat → Int32) (i : Nat) : upd (fa_fill f g i) i (f i) = fa_fill f g (i + 1) := by
  funext k
  by_cases e : k = i
  · subst e
    rw [pk_us]
    exact (if_pos (Nat.lt_succ_self k)).symm
  · rw [pk_un e]
    by_cases h : k < i
    · rw [fa_fill_in h, fa_fill_in (Nat.lt_succ_of_lt h)]
    · rw [fa_fill_out (Nat.le_of_not_lt h), fa_fill_out (by omega)]
/-- a store that changes nothing -/
theorem fa_upd_same {f : Nat → Int32} {i : Nat} {x : Int32} (h : f i = x) : upd f i x = f := by
  funext k
  by_cases e : k = i
  · subst e
    rw [pk_us, h]
  · rw [pk_un e]
/-- a store under a condition, told as one -/
theorem fa_upd_if (c : Prop) [Decidable c] (f : Nat → Int32) (i : Nat) (x : Int32) : (if c then upd f i x else f) = upd f i (if c then x else f i) := by
  by_cases h : c
  · rw [if_pos h, if_pos h]
  · rw [if_neg h, if_neg h, fa_upd_same rfl]
/-- two stores at one place, at two -/
theorem fa_upd_twice (f : Nat → Int32) (i : Nat) (x y : Int32) : upd (upd f i x) i y = upd f i y := by
  funext k
  by_cases e : k = i
  · subst e
    rw [pk_us, pk_us]
  · rw [pk_un e, pk_un e, pk_un e]
theorem fa_upd_swap (f : Nat → Int32) {i j : Nat} (h : i ≠ j) (x y : Int32) : upd (upd f i x) j y = upd (upd f j y) i x := by
  funext k
  by_cases e : k = i
  · subst e
    rw [pk_un h, pk_us, pk_us]
  · by_cases e2 : k = j
    · subst e2
      rw [pk_us, pk_un e, pk_us]
    · rw [pk_un e2, pk_un e, pk_un e, pk_un e2]
/-! ===== the first index with a property; a count ===== -/
/-- the first k < n with p k, n if there is none -/
def fa_first (p : Nat → Bool) : Nat → Nat
  | 0 => 0
  | n + 1 => if fa_first p n < n then fa_first p n else if p n then n else n + 1
theorem fa_first_le (p : Nat → Bool) : ∀ n, fa_first p n ≤ n
  | 0 => Nat.le_refl 0
  | n + 1 => by
    have ih := fa_first_le p n
    unfold fa_first
    split
    · omega
    · split
      · omega
      · omega
theorem fa_first_no (p : Nat → Bool) : ∀ n k, k < fa_first p n → p k = false
  | 0, k, h => absurd h (Nat.not_lt_zero k)
  | n + 1, k, h => by
    have ih := fa_first_no p n
    have hl := fa_first_le p n
    unfold fa_first at h
    split at h
    · exact ih k h
    · rename_i h1
      split at h
      · exact ih k (by omega)
      · rename_i h2
        by_cases e : k = n
        · subst e
          exact Bool.eq_false_iff.mpr h2
        · exact ih k (by omega)
theorem fa_first_yes (p : Nat → Bool) : ∀ n, fa_first p n < n → p (fa_first p n) = true
  | 0, h => absurd h (Nat.not_lt_zero _)
  | n + 1, h => by
    have ih := fa_first_yes p n
    have hl := fa_first_le p n
    unfold fa_first at h ⊢
    split at h
    · rename_i h1
      rw [if_pos h1]
      exact ih h1
    · rename_i h1
      rw [if_neg h1]
      split at h
      · rename_i h2
        rw [if_pos h2]
        exact h2
      · omega
/-- how many k < n have p k -/
def fa_cnt (p : Nat → Bool) : Nat → Nat
  | 0 => 0
  | n + 1 => fa_cnt p n + if p n then 1 else 0
theorem fa_cnt_le (p : Nat → Bool) : ∀ n, fa_cnt p n ≤ n
  | 0 => Nat.le_refl 0
  | n + 1 => by
    have ih := fa_cnt_le p n
    unfold fa_cnt
    split
    · omega
    · omega
theorem fa_cnt_yes {p : Nat → Bool} {n : Nat} (h : p n = true) : fa_cnt p (n + 1) = fa_cnt p n + 1 := by rw [fa_cnt, if_pos h]
theorem fa_cnt_no {p : Nat → Bool} {n : Nat} (h : p n = false) : fa_cnt p (n + 1) = fa_cnt p n := by rw [fa_cnt, if_neg (by rw [h]; decide)]; rfl
theorem fa_cnt_cong {p q : Nat → Bool} : ∀ {n : Nat}, (∀ k, k < n → p k = q k) → fa_cnt p n = fa_cnt q n
  | 0, _ => rfl
  | n + 1, h => by rw [fa_cnt, fa_cnt, fa_cnt_cong (fun k hk => h k (Nat.lt_succ_of_lt hk)), h n (Nat.lt_succ_self n)]
/-! ===== an answer carried into a post; a branch on a boolean answer ===== -/
theorem fa_post {α : Type} {P : α → Prop} {x y : α} (h : x = y) (hp : P y) : P x := h ▸ hp
theorem fa_post2 {α β : Type} {P : α → β → Prop} {x y : α} {u v : β} (h : x = y) (h2 : u = v) (hp : P y v) : P x u := h ▸ h2 ▸ hp
theorem fa_bool {r : Int32} {b : Bool} (h : r = if b then 1 else 0) : (r = 0 ↔ b = false) ∧ (¬ r = 0 ↔ b = true) := by
  subst h
  cases b
  · exact ⟨⟨fun _ => rfl, fun _ => rfl⟩, ⟨fun h => absurd rfl h, fun h => absurd h (by decide)⟩⟩
  · exact ⟨⟨fun h => absurd h (by decide), fun h => absurd h (by decide)⟩, ⟨fun _ => rfl, fun _ => by decide⟩⟩
/-- a boolean's narrowing changes nothing -/
theorem fa_bool_and {r : Int32} (h : r = 0 ∨ r = 1) : r &&& 1 = r := by
  rcases h with rfl | rfl
  · decide
  · decide
theorem fa_bool_prop {c : Prop} [Decidable c] {r : Int32} (h : r = if c then 1 else 0) : (r = 0 ↔ ¬ c) ∧ (¬ r = 0 ↔ c) := by
  subst h
  by_cases hc : c
  · rw [if_pos hc]
    exact ⟨⟨fun h => absurd h (by decide), fun h => absurd hc h⟩, ⟨fun _ => hc, fun _ => by decide⟩⟩
  · rw [if_neg hc]
    exact ⟨⟨fun _ => hc, fun _ => rfl⟩, ⟨fun h => absurd rfl h, fun h => absurd h hc⟩⟩
end
section
theorem zk_ofInt (k : Nat) : Int32.ofInt (k : Int) = nI k := by
  apply Int32.toBitVec_inj.mp
  show BitVec.ofInt 32 (k : Int) = BitVec.ofNat 32 k
  exact BitVec.ofInt_natCast 32 k
theorem zk_inc (a k : Nat) : nI a + Int32.ofInt (k : Int) = nI (a + k) := by rw [zk_ofInt, nI_add]
section ZN
variable {C : zCx} {τ : Nat → ClassId} {ι : Nat → Nat} {R : Room} {own : String} {cc : ByteArray} {nL kc ks pc : Nat} {lv : List (Nat × Value)} {st : List Value} {w : List va_E}
theorem zk_iconst (hC : zOK C τ R own cc nL) {n : Int} (hdg : decode cc pc = .ok (.iconst n, 1)) {v : Int32} (hv : Int32.ofInt n = v) (k : zR C τ ι nL kc ks (pc + 1) lv (.int v :: st) w) : zR C τ ι nL kc ks pc lv st w := zr_iconst hC hdg (by rw [hv]; exact k)
theorem zk_bipush (hC : zOK C τ R own cc nL) {n : Int} (hdg : decode cc pc = .ok (.bipush n, 2)) {v : Int32} (hv : (Int8.ofInt n).toInt32 = v) (k : zR C τ ι nL kc ks (pc + 2) lv (.int v :: st) w) : zR C τ ι nL kc ks pc lv st w := zr_bipush hC hdg (by rw [hv]; exact k)
theorem zk_sipush (hC : zOK C τ R own cc nL) {n : Int} (hdg : decode cc pc = .ok (.sipush n, 3)) {v : Int32} (hv : (Int16.ofInt n).toInt32 = v) (k : zR C τ ι nL kc ks (pc + 3) lv (.int v :: st) w) : zR C τ ι nL kc ks pc lv st w := zr_sipush hC hdg (by rw [hv]; exact k)
theorem zn_iadd (hC : zOK C τ R own cc nL) {x y v : Int32} (hdg : decode cc pc = .ok (.iadd, 1)) (hv : x + y = v) (k : zR C τ ι nL kc ks (pc + 1) lv (.int v :: st) w) : zR C τ ι nL kc ks pc lv (.int y :: .int x :: st) w := zr_iadd hC hdg (by rw [hv]; exact k)
theorem zn_isub (hC : zOK C τ R own cc nL) {x y v : Int32} (hdg : decode cc pc = .ok (.isub, 1)) (hv : x - y = v) (k : zR C τ ι nL kc ks (pc + 1) lv (.int v :: st) w) : zR C τ ι nL kc ks pc lv (.int y :: .int x :: st) w := zr_isub hC hdg (by rw [hv]; exact k)
theorem zn_imul (hC : zOK C τ R own cc nL) {x y v : Int32} (hdg : decode cc pc = .ok (.imul, 1)) (hv : x * y = v) (k : zR C τ ι nL kc ks (pc + 1) lv (.int v :: st) w) : zR C τ ι nL kc ks pc lv (.int y :: .int x :: st) w := zr_imul hC hdg (by rw [hv]; exact k)
theorem zn_iand (hC : zOK C τ R own cc nL) {x y v : Int32} (hdg : decode cc pc = .ok (.iand, 1)) (hv : x &&& y = v) (k : zR C τ ι nL kc ks (pc + 1) lv (.int v :: st) w) : zR C τ ι nL kc ks pc lv (.int y :: .int x :: st) w := zr_iand hC hdg (by rw [hv]; exact k)
theorem zn_ior (hC : zOK C τ R own cc nL) {x y v : Int32} (hdg : decode cc pc = .ok (.ior, 1)) (hv : x ||| y = v) (k : zR C τ ι nL kc ks (pc + 1) lv (.int v :: st) w) : zR C τ ι nL kc ks pc lv (.int y :: .int x :: st) w := zr_ior hC hdg (by rw [hv]; exact k)
theorem zn_ixor (hC : zOK C τ R own cc nL) {x y v : Int32} (hdg : decode cc pc = .ok (.ixor, 1)) (hv : x ^^^ y = v) (k : zR C τ ι nL kc ks (pc + 1) lv (.int v :: st) w) : zR C τ ι nL kc ks pc lv (.int y :: .int x :: st) w := zr_ixor hC hdg (by rw [hv]; exact k)
theorem zn_ishl (hC : zOK C τ R own cc nL) {x y v : Int32} (hdg : decode cc pc = .ok (.ishl, 1)) (hv : x <<< (y &&& 31) = v) (k : zR C τ ι nL kc ks (pc + 1) lv (.int v :: st) w) : zR C τ ι nL kc ks pc lv (.int y :: .int x :: st) w := zr_ishl hC hdg (by rw [hv]; exact k)
theorem zn_ishr (hC : zOK C τ R own cc nL) {x y v : Int32} (hdg : decode cc pc = .ok (.ishr, 1)) (hv : x >>> (y &&& 31) = v) (k : zR C τ ι nL kc ks (pc + 1) lv (.int v :: st) w) : zR C τ ι nL kc ks pc lv (.int y :: .int x :: st) w := zr_ishr hC hdg (by rw [hv]; exact k)
theorem zn_iushr (hC : zOK C τ R own cc nL) {x y v : Int32} (hdg : decode cc pc = .ok (.iushr, 1)) (hv : (x.toUInt32 >>> (y.toUInt32 &&& Int32.toUInt32 31)).toInt32 = v) (k : zR C τ ι nL kc ks (pc + 1) lv (.int v :: st) w) : zR C τ ι nL kc ks pc lv (.int y :: .int x :: st) w := zr_iushr hC hdg (by rw [hv]; exact k)
theorem zn_idiv (hC : zOK C τ R own cc nL) {x y v : Int32} (hdg : decode cc pc = .ok (.idiv, 1)) (hne : ¬ y = 0) (hv : x / y = v) (k : zR C τ ι nL kc ks (pc + 1) lv (.int v :: st) w) : zR C τ ι nL kc ks pc lv (.int y :: .int x :: st) w := zr_idiv hC hdg hne (by rw [hv]; exact k)
theorem zn_irem (hC : zOK C τ R own cc nL) {x y v : Int32} (hdg : decode cc pc = .ok (.irem, 1)) (hne : ¬ y = 0) (hv : x - x / y * y = v) (k : zR C τ ι nL kc ks (pc + 1) lv (.int v :: st) w) : zR C τ ι nL kc ks pc lv (.int y :: .int x :: st) w := zr_irem hC hdg hne (by rw [hv]; exact k)
theorem zn_iinc (hC : zOK C τ R own cc nL) {i : Nat} {n : Int} {x v : Int32} (hdg : decode cc pc = .ok (.iinc i n, 3)) (hk : zlk i lv = some (.int x)) (hn : i < nL) (hv : x + Int32.ofInt n = v) (k : zR C τ ι nL kc ks (pc + 3) (zset i (.int v) lv) st w) : zR C τ ι nL kc ks pc lv st w := zr_iinc hC hdg hk hn (by rw [hv]; exact k)
end ZN
end
section
/-! NUMBERS AND SETS of the document's state -/
theorem z_in {x : Int32} {n : Nat} (h1 : ¬ x < 0) (h2 : x < nI n) (hn : n < 2147483648) : ∃ j, j < n ∧ x = nI j := by
  rcases pk_ix x (n := n) hn with h | h | h
  · exact absurd h h1
  · exact absurd h (Int32.not_le.mpr h2)
  · exact h
theorem z_nlt {a b : Nat} (ha : a < 2147483648) (hb : b < 2147483648) : ¬ nI a < nI b ↔ b ≤ a := by rw [nI_ltI ha hb]; omega
theorem z_nle {a b : Nat} (ha : a < 2147483648) (hb : b < 2147483648) : ¬ nI a ≤ nI b ↔ b < a := by rw [nI_leI ha hb]; omega
theorem z_ne0 {a : Nat} (ha : a < 2147483648) : nI a = 0 ↔ a = 0 := nI_eq (b := 0) ha (by decide)
theorem bt_nI (n i : Nat) (hi : i < 32) : bt (nI n) i = n.testBit i := by
  show (BitVec.ofNat 32 n).getLsbD i = _
  rw [BitVec.getLsbD_ofNat]
  simp [hi]
theorem z_shl1 : ∀ m, m < 32 → nI 1 <<< (nI m &&& 31) = nI (2 ^ m) := by decide +kernel
/-- without the bits of the second -/
def zan (a b : Nat) : Nat := a &&& (b ^^^ 4294967295)
theorem z_m1 : (-1 : Int32) = nI 4294967295 := by decide +kernel
theorem z_andn (a b : Nat) : nI a &&& (nI b ^^^ (-1)) = nI (zan a b) := by rw [z_m1, nx_xor, nx_and]; rfl
theorem zan_bit {a b i : Nat} (hi : i < 32) : (zan a b).testBit i = (a.testBit i && !b.testBit i) := by
  unfold zan
  rw [Nat.testBit_and, Nat.testBit_xor]
  have h : ∀ i, i < 32 → (4294967295 : Nat).testBit i = true := by decide +kernel
  rw [h i hi]
  cases b.testBit i <;> simp
theorem zan_lt {a b n : Nat} (h : a < 2 ^ n) : zan a b < 2 ^ n := by
  unfold zan
  rw [Nat.and_comm]
  exact Nat.and_lt_two_pow _ h
/-- the set of those below n, as bits -/
def dmn (P : Nat → Bool) : Nat → Nat
  | 0 => 0
  | n + 1 => dmn P n ||| (if P n then 2 ^ n else 0)
abbrev dm (P : Nat → Bool) : Nat := dmn P 16
theorem dmn_bit (P : Nat → Bool) : ∀ n i, (dmn P n).testBit i = (decide (i < n) && P i)
  | 0, i => by simp [dmn]
  | n + 1, i => by
    rw [dmn, Nat.testBit_or, dmn_bit P n i]
    by_cases h : P n = true
    · rw [if_pos h, Nat.testBit_two_pow]
      by_cases hi : n = i
      · subst hi; simp [h]
      · simp only [hi, decide_false, Bool.or_false]
        congr 1
        rw [decide_eq_decide]; omega
    · rw [if_neg h]
      simp only [Nat.zero_testBit, Bool.or_false]
      by_cases hi : i = n
      · subst hi; simp [h]
      · congr 1
        rw [decide_eq_decide]; omega
theorem dmn_lt (P : Nat → Bool) : ∀ n, dmn P n < 2 ^ n
  | 0 => by simp [dmn]
  | n + 1 => by
    have h := dmn_lt P n
    rw [dmn]
    refine Nat.or_lt_two_pow (Nat.lt_of_lt_of_le h (Nat.pow_le_pow_right (by decide) (by omega))) ?_
    by_cases hp : P n = true
    · rw [if_pos hp]; exact Nat.pow_lt_pow_right (by decide) (by omega)
    · rw [if_neg hp]; exact Nat.two_pow_pos _
theorem dm_lt (P : Nat → Bool) : dm P < 65536 := dmn_lt P 16
theorem dm_ext {P P' : Nat → Bool} (h : ∀ m, m < 16 → P m = P' m) : dm P = dm P' := by
  apply Nat.eq_of_testBit_eq
  intro i
  rw [dmn_bit, dmn_bit]
  by_cases hi : i < 16
  · rw [h i hi]
  · simp [hi]
theorem dm_or {P : Nat → Bool} {m : Nat} (hm : m < 16) : dm P ||| 2 ^ m = dm (fun j => P j || j == m) := by
  apply Nat.eq_of_testBit_eq
  intro i
  rw [Nat.testBit_or, dmn_bit, dmn_bit, Nat.testBit_two_pow]
  by_cases hi : m = i
  · subst hi; simp [hm]
  · have : (i == m) = false := by simp; omega
    simp [hi, this]
theorem dm_an {P : Nat → Bool} {b : Nat} : zan (dm P) b = dm (fun j => P j && !b.testBit j) := by
  apply Nat.eq_of_testBit_eq
  intro i
  by_cases hi : i < 32
  · rw [zan_bit hi, dmn_bit, dmn_bit, Bool.and_assoc]
  · rw [dmn_bit, Nat.testBit_lt_two_pow (Nat.lt_of_lt_of_le (zan_lt (n := 16) (dm_lt P)) (Nat.pow_le_pow_right (by decide) (by omega)))]
    simp; omega
theorem dm_zero {P : Nat → Bool} : dm P = 0 ↔ ∀ m, m < 16 → P m = false := by
  constructor
  · intro h m hm
    have := dmn_bit P 16 m
    rw [show dmn P 16 = 0 from h] at this
    simpa [hm] using this.symm
  · intro h
    rw [show (0 : Nat) = dm (fun _ => false) by decide]
    exact dm_ext h
theorem dm_bt {P : Nat → Bool} {m : Nat} (hm : m < 16) : bt (nI (dm P)) m = P m := by
  rw [bt_nI _ _ (by omega), dmn_bit]
  simp [hm]
/-- v is on the way from u up to 1 (n steps at most) -/
def bnf : Nat → Nat → Nat → Bool
  | 0, _, _ => false
  | n + 1, u, v => !(u == 0) && (v == u || bnf n (u / 2) v)
abbrev bn (l v : Nat) : Bool := bnf 5 l v
theorem bnf_0 : ∀ n v, bnf n 0 v = false
  | 0, _ => rfl
  | n + 1, v => by simp [bnf]
theorem bnf_le : ∀ {n u v}, bnf n u v = true → v ≤ u ∧ 1 ≤ v
  | 0, _, _, h => by cases h
  | n + 1, u, v, h => by
    simp only [bnf, Bool.and_eq_true, Bool.not_eq_true', beq_eq_false_iff_ne, Bool.or_eq_true, beq_iff_eq] at h
    rcases h.2 with h2 | h2
    · omega
    · have := bnf_le h2
      omega
/-- the set of the nodes from u up to 1 -/
def pthn : Nat → Nat → Nat
  | 0, _ => 0
  | n + 1, u => if u = 0 then 0 else 2 ^ u ||| pthn n (u / 2)
abbrev pth (u : Nat) : Nat := pthn 5 u
theorem pth_bit : ∀ n u v, (pthn n u).testBit v = bnf n u v
  | 0, u, v => by simp [pthn, bnf]
  | n + 1, u, v => by
    unfold pthn bnf
    by_cases h : u = 0
    · simp [h]
    · rw [if_neg h, Nat.testBit_or, Nat.testBit_two_pow, pth_bit n]
      have h1 : (u == 0) = false := by simp [h]
      rw [h1]
      by_cases h2 : u = v
      · subst h2; simp
      · have : (v == u) = false := by simp; omega
        simp [h2, this]
theorem pthn_lt : ∀ n u, u < 32 → pthn n u < 4294967296
  | 0, u, _ => by simp [pthn]
  | n + 1, u, h => by
    unfold pthn
    by_cases h0 : u = 0
    · simp [h0]
    · rw [if_neg h0]
      exact Nat.or_lt_two_pow (n := 32) (Nat.pow_lt_pow_right (by decide) h) (pthn_lt n (u / 2) (by omega))
/-- who is told to be at or beneath v -/
abbrev sm (lf : Nat → Nat) (v : Nat) : Nat := dm (fun m => bn (lf m) v)
/-- outside of some places nothing has changed -/
def zfrm (lo hi : Nat) (S S' : zS) : Prop := (∀ a, (a < lo ∨ hi ≤ a) → S'.1 a = S.1 a) ∧ S'.2 = S.2
theorem zfrm.rf {lo hi : Nat} {S : zS} : zfrm lo hi S S := ⟨fun _ _ => rfl, rfl⟩
theorem zfrm.tr {lo hi : Nat} {S S' S'' : zS} (h : zfrm lo hi S S') (h' : zfrm lo hi S' S'') : zfrm lo hi S S'' := ⟨fun a ha => (h'.1 a ha).trans (h.1 a ha), h'.2.trans h.2⟩
theorem zfrm.up {lo hi lo' hi' : Nat} {S S' : zS} (h : zfrm lo hi S S') (h1 : lo' ≤ lo) (h2 : hi ≤ hi') : zfrm lo' hi' S S' := ⟨fun a ha => h.1 a (by omega), h.2⟩
theorem zfrm.put {lo hi : Nat} {S S' : zS} (h : zfrm lo hi S S') {a k : Nat} {x : Int32} (h1 : lo ≤ a) (h2 : a < hi) : zfrm lo hi S (zput S' a k x) := ⟨fun b hb => (zput_ne S' x (by omega)).trans (h.1 b hb), h.2⟩
theorem zput_at (S : zS) (a k : Nat) (x : Int32) : (zput S a k x).1 a k = x := by simp [zput]
theorem zput_k (S : zS) {a k j : Nat} (x : Int32) (h : j ≠ k) : (zput S a k x).1 a j = S.1 a j := by simp [zput, h]
def fup (f : Nat → Nat) (m x : Nat) : Nat → Nat := fun j => if j = m then x else f j
theorem fup_at (f : Nat → Nat) (m x : Nat) : fup f m x m = x := by simp [fup]
theorem fup_ne (f : Nat → Nat) {m j : Nat} (x : Nat) (h : j ≠ m) : fup f m x j = f j := by simp [fup, h]
def zsub (lv : List (Nat × Value)) : List (Nat × Value) → Prop
  | [] => True
  | q :: t => zlk q.1 lv = some q.2 ∧ zsub lv t
theorem zsub_all {lv : List (Nat × Value)} : ∀ {l : List (Nat × Value)}, zsub lv l → ∀ q ∈ l, zlk q.1 lv = some q.2
  | [], _, q, hq => by cases hq
  | q0 :: t, h, q, hq => by
    rcases List.mem_cons.mp hq with rfl | hq
    · exact h.1
    · exact zsub_all h.2 q hq
theorem zR_sub {C : zCx} {τ : Nat → ClassId} {ι : Nat → Nat} {nL kc ks pc : Nat} {lv : List (Nat × Value)} {st : List Value} {w : List va_E} (lv' : List (Nat × Value)) (h : zsub lv lv') (k : zR C τ ι nL kc ks pc lv' st w) : zR C τ ι nL kc ks pc lv st w := zR_lv lv' (zsub_all h) k
def zfill (S : zS) (a n : Nat) (x : Int32) : zS := (fun a' k' => if a' = a ∧ k' < n then x else S.1 a' k', S.2)
def zfillL (S : zS) (a n : Nat) (x : Int64) : zS := (S.1, fun a' k' => if a' = a ∧ k' < n then x else S.2 a' k')
theorem zfill_0 (S : zS) (a : Nat) (x : Int32) : zfill S a 0 x = S := by simp [zfill]
theorem zfillL_0 (S : zS) (a : Nat) (x : Int64) : zfillL S a 0 x = S := by simp [zfillL]
theorem zfill_s (S : zS) (a n : Nat) (x : Int32) : zput (zfill S a n x) a n x = zfill S a (n + 1) x := by
  unfold zput zfill
  simp only [Prod.mk.injEq, and_true]
  funext a' k'
  by_cases h1 : a' = a
  · subst h1
    by_cases h2 : k' = n
    · subst h2; simp
    · by_cases h3 : k' < n
      · simp [h2, h3]; omega
      · have : ¬ k' < n + 1 := by omega
        simp [h2, h3, this]
  · simp [h1]
theorem zfillL_s (S : zS) (a n : Nat) (x : Int64) : zputL (zfillL S a n x) a n x = zfillL S a (n + 1) x := by
  unfold zputL zfillL
  simp only [Prod.mk.injEq, true_and]
  funext a' k'
  by_cases h1 : a' = a
  · subst h1
    by_cases h2 : k' = n
    · subst h2; simp
    · by_cases h3 : k' < n
      · simp [h2, h3]; omega
      · have : ¬ k' < n + 1 := by omega
        simp [h2, h3, this]
  · simp [h1]
/-- the number of bits -/
def pcn : Nat → Nat → Nat
  | 0, _ => 0
  | n + 1, x => (if x.testBit n then 1 else 0) + pcn n x
def bcE1 (x : Int32) : Int32 := x - ((x.toUInt32 >>> ((nI 1).toUInt32 &&& Int32.toUInt32 31)).toInt32 &&& 1431655765)
def bcE2 (x : Int32) : Int32 := (x &&& 858993459) + ((x.toUInt32 >>> ((nI 2).toUInt32 &&& Int32.toUInt32 31)).toInt32 &&& 858993459)
def bcE3 (x : Int32) : Int32 := (x + (x.toUInt32 >>> ((nI 4).toUInt32 &&& Int32.toUInt32 31)).toInt32) &&& 252645135
def bcE4 (x : Int32) : Int32 := x + (x.toUInt32 >>> ((nI 8).toUInt32 &&& Int32.toUInt32 31)).toInt32
def bcE5 (x : Int32) : Int32 := (x + (x.toUInt32 >>> ((nI 16).toUInt32 &&& Int32.toUInt32 31)).toInt32) &&& nI 63
theorem z_small {a n i : Nat} (h : a < 2 ^ n) (hi : n ≤ i) : a.testBit i = false := Nat.testBit_lt_two_pow (Nat.lt_of_lt_of_le h (Nat.pow_le_pow_right (by decide) hi))
def e1f (x : Nat) : Nat := (x >>> 1) &&& 1431655765
def e2f (y : Nat) : Nat := (y &&& 858993459) + ((y >>> 2) &&& 858993459)
theorem e_split {M s a b : Nat} (ha : a < 256) (hb : b < 256) (h1 : ∀ i, i < 8 → M.testBit i = true → i + s < 8) (h2 : ∀ i, i < 8 → M.testBit (i + 8) = M.testBit i) : ((256 * a + b) >>> s) &&& M = 256 * ((a >>> s) &&& M) + ((b >>> s) &&& M) := by
  have hlt : (b >>> s) &&& M < 2 ^ 8 := by
    rw [Nat.and_comm]
    exact Nat.and_lt_two_pow _ (Nat.lt_of_le_of_lt (by rw [Nat.shiftRight_eq_div_pow]; exact Nat.div_le_self _ _) hb)
  apply Nat.eq_of_testBit_eq
  intro i
  rw [show 256 = 2 ^ 8 by rfl, Nat.testBit_two_pow_mul_add _ hlt, Nat.testBit_and, Nat.testBit_shiftRight, Nat.testBit_two_pow_mul_add _ (show b < 2 ^ 8 from hb)]
  by_cases hi : i < 8
  · rw [if_pos hi, Nat.testBit_and, Nat.testBit_shiftRight]
    cases hM : M.testBit i
    · simp
    · have := h1 i hi hM
      rw [if_pos (by omega)]
  · rw [if_neg hi, if_neg (by omega), Nat.testBit_and, Nat.testBit_shiftRight]
    by_cases h16 : i < 16
    · rw [show s + i - 8 = s + (i - 8) by omega, ← h2 (i - 8) (by omega), show i - 8 + 8 = i by omega]
    · rw [z_small (show a < 2 ^ 8 from ha) (show 8 ≤ s + i - 8 by omega), z_small (show a < 2 ^ 8 from ha) (show 8 ≤ s + (i - 8) by omega)]
      simp
theorem e_byte : ∀ b, b < 256 → e1f b ≤ b ∧ b - e1f b < 256 ∧ e2f (b - e1f b) % 16 ≤ 4 ∧ e2f (b - e1f b) / 16 ≤ 4 ∧ e2f (b - e1f b) % 16 + e2f (b - e1f b) / 16 = pcn 8 b := by decide +kernel
theorem pcn_split {a b : Nat} (hb : b < 256) : pcn 16 (256 * a + b) = pcn 8 a + pcn 8 b := by
  have h : ∀ i, (256 * a + b).testBit i = if i < 8 then b.testBit i else a.testBit (i - 8) := fun i => Nat.testBit_two_pow_mul_add _ (show b < 2 ^ 8 from hb) i
  simp [pcn, h]
  omega
theorem bcE_all {n : Nat} (h : n < 65536) : bcE5 (bcE4 (bcE3 (bcE2 (bcE1 (nI n))))) = nI (pcn 16 n) := by
  obtain ⟨a, b, ha, hb, rfl⟩ : ∃ a b, a < 256 ∧ b < 256 ∧ n = 256 * a + b := ⟨n / 256, n % 256, by omega, by omega, by omega⟩
  obtain ⟨a1, a2, a3, a4, a5⟩ := e_byte a ha
  obtain ⟨b1, b2, b3, b4, b5⟩ := e_byte b hb
  rw [pcn_split hb]
  have m5 : ∀ i, i < 8 → (1431655765 : Nat).testBit i = true → i + 1 < 8 := by decide +kernel
  have m5' : ∀ i, i < 8 → (1431655765 : Nat).testBit (i + 8) = (1431655765 : Nat).testBit i := by decide +kernel
  have m3 : ∀ i, i < 8 → (858993459 : Nat).testBit i = true → i + 2 < 8 := by decide +kernel
  have m30 : ∀ i, i < 8 → (858993459 : Nat).testBit i = true → i + 0 < 8 := by decide +kernel
  have m3' : ∀ i, i < 8 → (858993459 : Nat).testBit (i + 8) = (858993459 : Nat).testBit i := by decide +kernel
  have s1 : e1f (256 * a + b) = 256 * e1f a + e1f b := e_split ha hb m5 m5'
  have e1 : bcE1 (nI (256 * a + b)) = nI (256 * (a - e1f a) + (b - e1f b)) := by
    unfold bcE1
    rw [nx_ush h (by decide), show (1431655765 : Int32) = nI 1431655765 from rfl, nx_and, show ((256 * a + b) >>> 1) &&& 1431655765 = 256 * e1f a + e1f b from s1, pk_sub (by omega)]
    congr 1; omega
  generalize hA : a - e1f a = A at *
  generalize hB : b - e1f b = B at *
  have hAB : 256 * A + B < 65536 := by omega
  have s2 : e2f (256 * A + B) = 256 * e2f A + e2f B := by
    have x1 := e_split (M := 858993459) (s := 0) a2 b2 m30 m3'
    have x2 := e_split (M := 858993459) (s := 2) a2 b2 m3 m3'
    simp only [Nat.shiftRight_zero] at x1
    unfold e2f
    rw [x1, x2]; omega
  have e2 : bcE2 (nI (256 * A + B)) = nI (256 * e2f A + e2f B) := by
    unfold bcE2
    rw [nx_ush hAB (by decide), show (858993459 : Int32) = nI 858993459 from rfl, nx_and, nx_and, nI_add]
    exact congrArg nI s2
  generalize e2f A = X at *
  generalize e2f B = Y at *
  have hXY : 256 * X + Y < 65536 := by omega
  have e3 : bcE3 (nI (256 * X + Y)) = nI (256 * (X % 16 + X / 16) + (Y % 16 + Y / 16)) := by
    unfold bcE3
    rw [nx_ush hXY (by decide), nI_add, show (252645135 : Int32) = nI 252645135 from rfl, nx_and]
    congr 1
    rw [Nat.shiftRight_eq_div_pow]
    have hz : 256 * X + Y + (256 * X + Y) / 2 ^ 4 = 256 * (X + X / 16) + (16 * (X % 16) + Y + Y / 16) := by omega
    rw [hz]
    have hp : 16 * (X % 16) + Y + Y / 16 < 256 := by omega
    have hq : X + X / 16 < 256 := by omega
    have m0 : ∀ i, i < 8 → (252645135 : Nat).testBit i = true → i + 0 < 8 := by decide +kernel
    have m0' : ∀ i, i < 8 → (252645135 : Nat).testBit (i + 8) = (252645135 : Nat).testBit i := by decide +kernel
    have x1 := e_split (M := 252645135) (s := 0) hq hp m0 m0'
    simp only [Nat.shiftRight_zero] at x1
    rw [x1]
    have hm : ∀ z, z < 256 → z &&& 252645135 = z % 16 := by decide +kernel
    rw [hm _ hq, hm _ hp]
    have y1 : (X + X / 16) % 16 = X % 16 + X / 16 := by omega
    have y2 : (16 * (X % 16) + Y + Y / 16) % 16 = Y % 16 + Y / 16 := by omega
    rw [y1, y2]
  have e4 : ∀ p, p < 9 → ∀ q, q < 9 → bcE5 (bcE4 (nI (256 * p + q))) = nI (p + q) := by decide +kernel
  rw [e1, e2, e3, e4 _ (by omega) _ (by omega), a5, b5]
theorem ntz_all {f j : Nat} (hj : j < 32) (hf : f < 4294967296) (h1 : f.testBit j = true) (h0 : ∀ i, i < j → f.testBit i = false) : ((nI f) ^^^ (-1)) &&& (nI f - nI 1) = nI (2 ^ j - 1) := by
  have hm : f % 2 ^ (j + 1) = 2 ^ j := by
    apply Nat.eq_of_testBit_eq
    intro i
    rw [Nat.testBit_mod_two_pow, Nat.testBit_two_pow]
    by_cases hi : i < j
    · rw [h0 i hi]; simp; omega
    · by_cases hi2 : j = i
      · subst hi2; simp [h1]
      · have : ¬ i < j + 1 := by omega
        simp [this, hi2]
  have hd : f = 2 ^ (j + 1) * (f / 2 ^ (j + 1)) + 2 ^ j := by
    have := Nat.div_add_mod f (2 ^ (j + 1))
    rw [hm] at this
    exact this.symm
  generalize f / 2 ^ (j + 1) = h at hd
  have hp := Nat.two_pow_pos j
  have hlt : 2 ^ j < 2 ^ (j + 1) := Nat.pow_lt_pow_right (by decide) (by omega)
  have h2 : f - 1 = 2 ^ (j + 1) * h + (2 ^ j - 1) := by omega
  rw [z_m1, nx_xor, pk_sub (by omega), nx_and]
  congr 1
  apply Nat.eq_of_testBit_eq
  intro i
  have hones : ∀ i, (4294967295 : Nat).testBit i = decide (i < 32) := fun i => Nat.testBit_two_pow_sub_one 32 i
  rw [Nat.testBit_and, Nat.testBit_xor, hones, Nat.testBit_two_pow_sub_one, h2, Nat.testBit_two_pow_mul_add _ (by omega), Nat.testBit_two_pow_sub_one]
  by_cases hi : i < j
  · rw [h0 i hi, if_pos (by omega)]
    simp [hi]; omega
  · by_cases hi2 : i = j
    · subst hi2
      rw [if_pos (by omega)]
      simp
    · rw [if_neg (by omega)]
      have hb : f.testBit i = h.testBit (i - (j + 1)) := by
        rw [hd, Nat.testBit_two_pow_mul_add _ hlt, if_neg (by omega)]
      have hz : decide (i < j) = false := by simp; omega
      rw [hz]
      by_cases h32 : i < 32
      · rw [hb, decide_eq_true h32]
        cases h.testBit (i - (j + 1)) <;> rfl
      · rw [← hb, z_small (show f < 2 ^ 32 from hf) (by omega)]
        simp
end
section
def spJ6_bitCount_0f7a4 : zSp := fun av S Q => ∃ n : Nat, av = [.int (nI n)] ∧ n < 65536 ∧ Q (some (.int (nI (pcn 16 n)))) S
set_option maxHeartbeats 4000000 in
set_option maxRecDepth 100000 in
theorem tJ6_bitCount_0f7a4 : zM yJ6_bitCount_0f7a4 cJ6_bitCount_0f7a4 1 (some .int) 0 spJ6_bitCount_0f7a4 := by
  refine zM.of (by decide) (by decide) (fun av S Q h => by obtain ⟨n, rfl, hn, hQ⟩ := h; exact Nat.le_of_ble_eq_true rfl) (fun C τ ι av S Q Qr h hr hC hE => ?_)
  obtain ⟨n, rfl, hn, hQ⟩ := h
  show zR C τ ι _ 0 0 0 [(0, .int (nI n))] [] _
  refine zr_iload_n hC dJ6_bitCount_0f7a4_0 rfl ?_
  refine zr_iload_n hC dJ6_bitCount_0f7a4_1 rfl ?_
  refine zk_iconst hC dJ6_bitCount_0f7a4_2 (v := nI 1) (by decide +kernel) ?_
  refine zr_iushr hC dJ6_bitCount_0f7a4_3 ?_
  refine zr_ldcw hC dJ6_bitCount_0f7a4_4 kc_J6_265 ?_
  refine zr_iand hC dJ6_bitCount_0f7a4_7 ?_
  refine zr_isub hC dJ6_bitCount_0f7a4_8 ?_
  refine zr_istore_n hC dJ6_bitCount_0f7a4_9 (by decide) ?_
  refine zr_iload_n hC dJ6_bitCount_0f7a4_10 rfl ?_
  refine zr_ldcw hC dJ6_bitCount_0f7a4_11 kc_J6_266 ?_
  refine zr_iand hC dJ6_bitCount_0f7a4_14 ?_
  refine zr_iload_n hC dJ6_bitCount_0f7a4_15 rfl ?_
  refine zk_iconst hC dJ6_bitCount_0f7a4_16 (v := nI 2) (by decide +kernel) ?_
  refine zr_iushr hC dJ6_bitCount_0f7a4_17 ?_
  refine zr_ldcw hC dJ6_bitCount_0f7a4_18 kc_J6_266 ?_
  refine zr_iand hC dJ6_bitCount_0f7a4_21 ?_
  refine zr_iadd hC dJ6_bitCount_0f7a4_22 ?_
  refine zr_istore_n hC dJ6_bitCount_0f7a4_23 (by decide) ?_
  refine zr_iload_n hC dJ6_bitCount_0f7a4_24 rfl ?_
  refine zr_iload_n hC dJ6_bitCount_0f7a4_25 rfl ?_
  refine zk_iconst hC dJ6_bitCount_0f7a4_26 (v := nI 4) (by decide +kernel) ?_
  refine zr_iushr hC dJ6_bitCount_0f7a4_27 ?_
  refine zr_iadd hC dJ6_bitCount_0f7a4_28 ?_
  refine zr_ldcw hC dJ6_bitCount_0f7a4_29 kc_J6_267 ?_
  refine zr_iand hC dJ6_bitCount_0f7a4_32 ?_
  refine zr_istore_n hC dJ6_bitCount_0f7a4_33 (by decide) ?_
  refine zr_iload_n hC dJ6_bitCount_0f7a4_34 rfl ?_
  refine zr_iload_n hC dJ6_bitCount_0f7a4_35 rfl ?_
  refine zk_bipush hC dJ6_bitCount_0f7a4_36 (v := nI 8) (by decide +kernel) ?_
  refine zr_iushr hC dJ6_bitCount_0f7a4_38 ?_
  refine zr_iadd hC dJ6_bitCount_0f7a4_39 ?_
  refine zr_istore_n hC dJ6_bitCount_0f7a4_40 (by decide) ?_
  refine zr_iload_n hC dJ6_bitCount_0f7a4_41 rfl ?_
  refine zr_iload_n hC dJ6_bitCount_0f7a4_42 rfl ?_
  refine zk_bipush hC dJ6_bitCount_0f7a4_43 (v := nI 16) (by decide +kernel) ?_
  refine zr_iushr hC dJ6_bitCount_0f7a4_45 ?_
  refine zr_iadd hC dJ6_bitCount_0f7a4_46 ?_
  refine zr_istore_n hC dJ6_bitCount_0f7a4_47 (by decide) ?_
  refine zr_iload_n hC dJ6_bitCount_0f7a4_48 rfl ?_
  refine zk_bipush hC dJ6_bitCount_0f7a4_49 (v := nI 63) (by decide +kernel) ?_
  refine zr_iand hC dJ6_bitCount_0f7a4_51 ?_
  exact zr_ireturn hC hE dJ6_bitCount_0f7a4_52 (hr _ _ (Eq.mpr (congrArg (fun z => Q (some (.int z)) S) (bcE_all hn)) hQ))
def spJ6_numberOfTrailingZeros_0f7a4 : zSp := fun av S Q => ∃ f j : Nat, av = [.int (nI f)] ∧ 16 ≤ j ∧ j < 32 ∧ f < 4294967296 ∧ f.testBit j = true ∧ (∀ i, i < j → f.testBit i = false) ∧ Q (some (.int (nI j))) S
set_option maxHeartbeats 4000000 in
set_option maxRecDepth 100000 in
theorem tJ6_numberOfTrailingZeros_0f7a4 : zM yJ6_numberOfTrailingZeros_0f7a4 cJ6_numberOfTrailingZeros_0f7a4 2 (some .int) 0 spJ6_numberOfTrailingZeros_0f7a4 := by
  refine zM.of (by decide) (by decide) (fun av S Q h => by obtain ⟨f, j, rfl, hj0, hj, hf, h1, h0, hQ⟩ := h; exact Nat.le_of_ble_eq_true rfl) (fun C τ ι av S Q Qr h hr hC hE => ?_)
  obtain ⟨f, j, rfl, hj0, hj, hf, h1, h0, hQ⟩ := h
  show zR C τ ι _ 0 0 0 [(0, .int (nI f))] [] _
  refine zr_iload_n hC dJ6_numberOfTrailingZeros_0f7a4_0 rfl ?_
  refine zk_iconst hC dJ6_numberOfTrailingZeros_0f7a4_1 (v := (-1)) (by decide +kernel) ?_
  refine zr_ixor hC dJ6_numberOfTrailingZeros_0f7a4_2 ?_
  refine zr_iload_n hC dJ6_numberOfTrailingZeros_0f7a4_3 rfl ?_
  refine zk_iconst hC dJ6_numberOfTrailingZeros_0f7a4_4 (v := nI 1) (by decide +kernel) ?_
  refine zr_isub hC dJ6_numberOfTrailingZeros_0f7a4_5 ?_
  refine zn_iand hC dJ6_numberOfTrailingZeros_0f7a4_6 (ntz_all hj hf h1 h0) ?_
  rcases (by omega : j = 16 ∨ j = 17 ∨ j = 18 ∨ j = 19 ∨ j = 20 ∨ j = 21 ∨ j = 22 ∨ j = 23 ∨ j = 24 ∨ j = 25 ∨ j = 26 ∨ j = 27 ∨ j = 28 ∨ j = 29 ∨ j = 30 ∨ j = 31) with rfl | rfl | rfl | rfl | rfl | rfl | rfl | rfl | rfl | rfl | rfl | rfl | rfl | rfl | rfl | rfl
  · refine zr_istore_n hC dJ6_numberOfTrailingZeros_0f7a4_7 (by decide) ?_
    refine zr_iload_n hC dJ6_numberOfTrailingZeros_0f7a4_8 rfl ?_
    refine zr_if_gt hC dJ6_numberOfTrailingZeros_0f7a4_9 (tgt := 17) (by decide) (fun c_9 => ?_) (fun c => absurd c (by decide +kernel))
    refine zk_iconst hC dJ6_numberOfTrailingZeros_0f7a4_17 (v := nI 1) (by decide +kernel) ?_
    refine zr_istore_n hC dJ6_numberOfTrailingZeros_0f7a4_18 (by decide) ?_
    refine zr_iload_n hC dJ6_numberOfTrailingZeros_0f7a4_19 rfl ?_
    refine zr_ldcw hC dJ6_numberOfTrailingZeros_0f7a4_20 kc_J6_264 ?_
    refine zr_icmp_le hC dJ6_numberOfTrailingZeros_0f7a4_23 (tgt := 34) (by decide) (fun c_23 => ?_) (fun c => absurd c (by decide +kernel))
    refine zr_iload_n hC dJ6_numberOfTrailingZeros_0f7a4_34 rfl ?_
    refine zk_sipush hC dJ6_numberOfTrailingZeros_0f7a4_35 (v := nI 256) (by decide +kernel) ?_
    refine zr_icmp_le hC dJ6_numberOfTrailingZeros_0f7a4_38 (tgt := 49) (by decide) (fun c => absurd c (by decide +kernel)) (fun c_38 => ?_)
    refine zn_iinc hC dJ6_numberOfTrailingZeros_0f7a4_41 rfl (by decide) (v := nI 9) (by decide +kernel) ?_
    refine zr_iload_n hC dJ6_numberOfTrailingZeros_0f7a4_44 rfl ?_
    refine zk_bipush hC dJ6_numberOfTrailingZeros_0f7a4_45 (v := nI 8) (by decide +kernel) ?_
    refine zn_iushr hC dJ6_numberOfTrailingZeros_0f7a4_47 (v := nI 255) (by decide +kernel) ?_
    refine zr_istore_n hC dJ6_numberOfTrailingZeros_0f7a4_48 (by decide) ?_
    refine zr_iload_n hC dJ6_numberOfTrailingZeros_0f7a4_49 rfl ?_
    refine zk_bipush hC dJ6_numberOfTrailingZeros_0f7a4_50 (v := nI 16) (by decide +kernel) ?_
    refine zr_icmp_le hC dJ6_numberOfTrailingZeros_0f7a4_52 (tgt := 62) (by decide) (fun c => absurd c (by decide +kernel)) (fun c_52 => ?_)
    refine zn_iinc hC dJ6_numberOfTrailingZeros_0f7a4_55 rfl (by decide) (v := nI 13) (by decide +kernel) ?_
    refine zr_iload_n hC dJ6_numberOfTrailingZeros_0f7a4_58 rfl ?_
    refine zk_iconst hC dJ6_numberOfTrailingZeros_0f7a4_59 (v := nI 4) (by decide +kernel) ?_
    refine zn_iushr hC dJ6_numberOfTrailingZeros_0f7a4_60 (v := nI 15) (by decide +kernel) ?_
    refine zr_istore_n hC dJ6_numberOfTrailingZeros_0f7a4_61 (by decide) ?_
    refine zr_iload_n hC dJ6_numberOfTrailingZeros_0f7a4_62 rfl ?_
    refine zk_iconst hC dJ6_numberOfTrailingZeros_0f7a4_63 (v := nI 4) (by decide +kernel) ?_
    refine zr_icmp_le hC dJ6_numberOfTrailingZeros_0f7a4_64 (tgt := 74) (by decide) (fun c => absurd c (by decide +kernel)) (fun c_64 => ?_)
    refine zn_iinc hC dJ6_numberOfTrailingZeros_0f7a4_67 rfl (by decide) (v := nI 15) (by decide +kernel) ?_
    refine zr_iload_n hC dJ6_numberOfTrailingZeros_0f7a4_70 rfl ?_
    refine zk_iconst hC dJ6_numberOfTrailingZeros_0f7a4_71 (v := nI 2) (by decide +kernel) ?_
    refine zn_iushr hC dJ6_numberOfTrailingZeros_0f7a4_72 (v := nI 3) (by decide +kernel) ?_
    refine zr_istore_n hC dJ6_numberOfTrailingZeros_0f7a4_73 (by decide) ?_
    refine zr_iload_n hC dJ6_numberOfTrailingZeros_0f7a4_74 rfl ?_
    refine zr_iload_n hC dJ6_numberOfTrailingZeros_0f7a4_75 rfl ?_
    refine zk_iconst hC dJ6_numberOfTrailingZeros_0f7a4_76 (v := nI 1) (by decide +kernel) ?_
    refine zn_iushr hC dJ6_numberOfTrailingZeros_0f7a4_77 (v := nI 1) (by decide +kernel) ?_
    refine zn_iadd hC dJ6_numberOfTrailingZeros_0f7a4_78 (v := nI 16) (by decide +kernel) ?_
    exact zr_ireturn hC hE dJ6_numberOfTrailingZeros_0f7a4_79 (hr _ _ (hQ))
  · refine zr_istore_n hC dJ6_numberOfTrailingZeros_0f7a4_7 (by decide) ?_
    refine zr_iload_n hC dJ6_numberOfTrailingZeros_0f7a4_8 rfl ?_
    refine zr_if_gt hC dJ6_numberOfTrailingZeros_0f7a4_9 (tgt := 17) (by decide) (fun c_9 => ?_) (fun c => absurd c (by decide +kernel))
    refine zk_iconst hC dJ6_numberOfTrailingZeros_0f7a4_17 (v := nI 1) (by decide +kernel) ?_
    refine zr_istore_n hC dJ6_numberOfTrailingZeros_0f7a4_18 (by decide) ?_
    refine zr_iload_n hC dJ6_numberOfTrailingZeros_0f7a4_19 rfl ?_
    refine zr_ldcw hC dJ6_numberOfTrailingZeros_0f7a4_20 kc_J6_264 ?_
    refine zr_icmp_le hC dJ6_numberOfTrailingZeros_0f7a4_23 (tgt := 34) (by decide) (fun c => absurd c (by decide +kernel)) (fun c_23 => ?_)
    refine zn_iinc hC dJ6_numberOfTrailingZeros_0f7a4_26 rfl (by decide) (v := nI 17) (by decide +kernel) ?_
    refine zr_iload_n hC dJ6_numberOfTrailingZeros_0f7a4_29 rfl ?_
    refine zk_bipush hC dJ6_numberOfTrailingZeros_0f7a4_30 (v := nI 16) (by decide +kernel) ?_
    refine zn_iushr hC dJ6_numberOfTrailingZeros_0f7a4_32 (v := nI 1) (by decide +kernel) ?_
    refine zr_istore_n hC dJ6_numberOfTrailingZeros_0f7a4_33 (by decide) ?_
    refine zr_iload_n hC dJ6_numberOfTrailingZeros_0f7a4_34 rfl ?_
    refine zk_sipush hC dJ6_numberOfTrailingZeros_0f7a4_35 (v := nI 256) (by decide +kernel) ?_
    refine zr_icmp_le hC dJ6_numberOfTrailingZeros_0f7a4_38 (tgt := 49) (by decide) (fun c_38 => ?_) (fun c => absurd c (by decide +kernel))
    refine zr_iload_n hC dJ6_numberOfTrailingZeros_0f7a4_49 rfl ?_
    refine zk_bipush hC dJ6_numberOfTrailingZeros_0f7a4_50 (v := nI 16) (by decide +kernel) ?_
    refine zr_icmp_le hC dJ6_numberOfTrailingZeros_0f7a4_52 (tgt := 62) (by decide) (fun c_52 => ?_) (fun c => absurd c (by decide +kernel))
    refine zr_iload_n hC dJ6_numberOfTrailingZeros_0f7a4_62 rfl ?_
    refine zk_iconst hC dJ6_numberOfTrailingZeros_0f7a4_63 (v := nI 4) (by decide +kernel) ?_
    refine zr_icmp_le hC dJ6_numberOfTrailingZeros_0f7a4_64 (tgt := 74) (by decide) (fun c_64 => ?_) (fun c => absurd c (by decide +kernel))
    refine zr_iload_n hC dJ6_numberOfTrailingZeros_0f7a4_74 rfl ?_
    refine zr_iload_n hC dJ6_numberOfTrailingZeros_0f7a4_75 rfl ?_
    refine zk_iconst hC dJ6_numberOfTrailingZeros_0f7a4_76 (v := nI 1) (by decide +kernel) ?_
    refine zn_iushr hC dJ6_numberOfTrailingZeros_0f7a4_77 (v := nI 0) (by decide +kernel) ?_
    refine zn_iadd hC dJ6_numberOfTrailingZeros_0f7a4_78 (v := nI 17) (by decide +kernel) ?_
    exact zr_ireturn hC hE dJ6_numberOfTrailingZeros_0f7a4_79 (hr _ _ (hQ))
  · refine zr_istore_n hC dJ6_numberOfTrailingZeros_0f7a4_7 (by decide) ?_
    refine zr_iload_n hC dJ6_numberOfTrailingZeros_0f7a4_8 rfl ?_
    refine zr_if_gt hC dJ6_numberOfTrailingZeros_0f7a4_9 (tgt := 17) (by decide) (fun c_9 => ?_) (fun c => absurd c (by decide +kernel))
    refine zk_iconst hC dJ6_numberOfTrailingZeros_0f7a4_17 (v := nI 1) (by decide +kernel) ?_
    refine zr_istore_n hC dJ6_numberOfTrailingZeros_0f7a4_18 (by decide) ?_
    refine zr_iload_n hC dJ6_numberOfTrailingZeros_0f7a4_19 rfl ?_
    refine zr_ldcw hC dJ6_numberOfTrailingZeros_0f7a4_20 kc_J6_264 ?_
    refine zr_icmp_le hC dJ6_numberOfTrailingZeros_0f7a4_23 (tgt := 34) (by decide) (fun c => absurd c (by decide +kernel)) (fun c_23 => ?_)
    refine zn_iinc hC dJ6_numberOfTrailingZeros_0f7a4_26 rfl (by decide) (v := nI 17) (by decide +kernel) ?_
    refine zr_iload_n hC dJ6_numberOfTrailingZeros_0f7a4_29 rfl ?_
    refine zk_bipush hC dJ6_numberOfTrailingZeros_0f7a4_30 (v := nI 16) (by decide +kernel) ?_
    refine zn_iushr hC dJ6_numberOfTrailingZeros_0f7a4_32 (v := nI 3) (by decide +kernel) ?_
    refine zr_istore_n hC dJ6_numberOfTrailingZeros_0f7a4_33 (by decide) ?_
    refine zr_iload_n hC dJ6_numberOfTrailingZeros_0f7a4_34 rfl ?_
    refine zk_sipush hC dJ6_numberOfTrailingZeros_0f7a4_35 (v := nI 256) (by decide +kernel) ?_
    refine zr_icmp_le hC dJ6_numberOfTrailingZeros_0f7a4_38 (tgt := 49) (by decide) (fun c_38 => ?_) (fun c => absurd c (by decide +kernel))
    refine zr_iload_n hC dJ6_numberOfTrailingZeros_0f7a4_49 rfl ?_
    refine zk_bipush hC dJ6_numberOfTrailingZeros_0f7a4_50 (v := nI 16) (by decide +kernel) ?_
    refine zr_icmp_le hC dJ6_numberOfTrailingZeros_0f7a4_52 (tgt := 62) (by decide) (fun c_52 => ?_) (fun c => absurd c (by decide +kernel))
    refine zr_iload_n hC dJ6_numberOfTrailingZeros_0f7a4_62 rfl ?_
    refine zk_iconst hC dJ6_numberOfTrailingZeros_0f7a4_63 (v := nI 4) (by decide +kernel) ?_
    refine zr_icmp_le hC dJ6_numberOfTrailingZeros_0f7a4_64 (tgt := 74) (by decide) (fun c_64 => ?_) (fun c => absurd c (by decide +kernel))
    refine zr_iload_n hC dJ6_numberOfTrailingZeros_0f7a4_74 rfl ?_
    refine zr_iload_n hC dJ6_numberOfTrailingZeros_0f7a4_75 rfl ?_
    refine zk_iconst hC dJ6_numberOfTrailingZeros_0f7a4_76 (v := nI 1) (by decide +kernel) ?_
    refine zn_iushr hC dJ6_numberOfTrailingZeros_0f7a4_77 (v := nI 1) (by decide +kernel) ?_
    refine zn_iadd hC dJ6_numberOfTrailingZeros_0f7a4_78 (v := nI 18) (by decide +kernel) ?_
    exact zr_ireturn hC hE dJ6_numberOfTrailingZeros_0f7a4_79 (hr _ _ (hQ))
  · refine zr_istore_n hC dJ6_numberOfTrailingZeros_0f7a4_7 (by decide) ?_
    refine zr_iload_n hC dJ6_numberOfTrailingZeros_0f7a4_8 rfl ?_
    refine zr_if_gt hC dJ6_numberOfTrailingZeros_0f7a4_9 (tgt := 17) (by decide) (fun c_9 => ?_) (fun c => absurd c (by decide +kernel))
    refine zk_iconst hC dJ6_numberOfTrailingZeros_0f7a4_17 (v := nI 1) (by decide +kernel) ?_
    refine zr_istore_n hC dJ6_numberOfTrailingZeros_0f7a4_18 (by decide) ?_
    refine zr_iload_n hC dJ6_numberOfTrailingZeros_0f7a4_19 rfl ?_
    refine zr_ldcw hC dJ6_numberOfTrailingZeros_0f7a4_20 kc_J6_264 ?_
    refine zr_icmp_le hC dJ6_numberOfTrailingZeros_0f7a4_23 (tgt := 34) (by decide) (fun c => absurd c (by decide +kernel)) (fun c_23 => ?_)
    refine zn_iinc hC dJ6_numberOfTrailingZeros_0f7a4_26 rfl (by decide) (v := nI 17) (by decide +kernel) ?_
    refine zr_iload_n hC dJ6_numberOfTrailingZeros_0f7a4_29 rfl ?_
    refine zk_bipush hC dJ6_numberOfTrailingZeros_0f7a4_30 (v := nI 16) (by decide +kernel) ?_
    refine zn_iushr hC dJ6_numberOfTrailingZeros_0f7a4_32 (v := nI 7) (by decide +kernel) ?_
    refine zr_istore_n hC dJ6_numberOfTrailingZeros_0f7a4_33 (by decide) ?_
    refine zr_iload_n hC dJ6_numberOfTrailingZeros_0f7a4_34 rfl ?_
    refine zk_sipush hC dJ6_numberOfTrailingZeros_0f7a4_35 (v := nI 256) (by decide +kernel) ?_
    refine zr_icmp_le hC dJ6_numberOfTrailingZeros_0f7a4_38 (tgt := 49) (by decide) (fun c_38 => ?_) (fun c => absurd c (by decide +kernel))
    refine zr_iload_n hC dJ6_numberOfTrailingZeros_0f7a4_49 rfl ?_
    refine zk_bipush hC dJ6_numberOfTrailingZeros_0f7a4_50 (v := nI 16) (by decide +kernel) ?_
    refine zr_icmp_le hC dJ6_numberOfTrailingZeros_0f7a4_52 (tgt := 62) (by decide) (fun c_52 => ?_) (fun c => absurd c (by decide +kernel))
    refine zr_iload_n hC dJ6_numberOfTrailingZeros_0f7a4_62 rfl ?_
    refine zk_iconst hC dJ6_numberOfTrailingZeros_0f7a4_63 (v := nI 4) (by decide +kernel) ?_
    refine zr_icmp_le hC dJ6_numberOfTrailingZeros_0f7a4_64 (tgt := 74) (by decide) (fun c => absurd c (by decide +kernel)) (fun c_64 => ?_)
    refine zn_iinc hC dJ6_numberOfTrailingZeros_0f7a4_67 rfl (by decide) (v := nI 19) (by decide +kernel) ?_
    refine zr_iload_n hC dJ6_numberOfTrailingZeros_0f7a4_70 rfl ?_
    refine zk_iconst hC dJ6_numberOfTrailingZeros_0f7a4_71 (v := nI 2) (by decide +kernel) ?_
    refine zn_iushr hC dJ6_numberOfTrailingZeros_0f7a4_72 (v := nI 1) (by decide +kernel) ?_
    refine zr_istore_n hC dJ6_numberOfTrailingZeros_0f7a4_73 (by decide) ?_
    refine zr_iload_n hC dJ6_numberOfTrailingZeros_0f7a4_74 rfl ?_
    refine zr_iload_n hC dJ6_numberOfTrailingZeros_0f7a4_75 rfl ?_
    refine zk_iconst hC dJ6_numberOfTrailingZeros_0f7a4_76 (v := nI 1) (by decide +kernel) ?_
    refine zn_iushr hC dJ6_numberOfTrailingZeros_0f7a4_77 (v := nI 0) (by decide +kernel) ?_
    refine zn_iadd hC dJ6_numberOfTrailingZeros_0f7a4_78 (v := nI 19) (by decide +kernel) ?_
    exact zr_ireturn hC hE dJ6_numberOfTrailingZeros_0f7a4_79 (hr _ _ (hQ))
  · refine zr_istore_n hC dJ6_numberOfTrailingZeros_0f7a4_7 (by decide) ?_
    refine zr_iload_n hC dJ6_numberOfTrailingZeros_0f7a4_8 rfl ?_
    refine zr_if_gt hC dJ6_numberOfTrailingZeros_0f7a4_9 (tgt := 17) (by decide) (fun c_9 => ?_) (fun c => absurd c (by decide +kernel))
    refine zk_iconst hC dJ6_numberOfTrailingZeros_0f7a4_17 (v := nI 1) (by decide +kernel) ?_
    refine zr_istore_n hC dJ6_numberOfTrailingZeros_0f7a4_18 (by decide) ?_
    refine zr_iload_n hC dJ6_numberOfTrailingZeros_0f7a4_19 rfl ?_
    refine zr_ldcw hC dJ6_numberOfTrailingZeros_0f7a4_20 kc_J6_264 ?_
    refine zr_icmp_le hC dJ6_numberOfTrailingZeros_0f7a4_23 (tgt := 34) (by decide) (fun c => absurd c (by decide +kernel)) (fun c_23 => ?_)
    refine zn_iinc hC dJ6_numberOfTrailingZeros_0f7a4_26 rfl (by decide) (v := nI 17) (by decide +kernel) ?_
    refine zr_iload_n hC dJ6_numberOfTrailingZeros_0f7a4_29 rfl ?_
    refine zk_bipush hC dJ6_numberOfTrailingZeros_0f7a4_30 (v := nI 16) (by decide +kernel) ?_
    refine zn_iushr hC dJ6_numberOfTrailingZeros_0f7a4_32 (v := nI 15) (by decide +kernel) ?_
    refine zr_istore_n hC dJ6_numberOfTrailingZeros_0f7a4_33 (by decide) ?_
    refine zr_iload_n hC dJ6_numberOfTrailingZeros_0f7a4_34 rfl ?_
    refine zk_sipush hC dJ6_numberOfTrailingZeros_0f7a4_35 (v := nI 256) (by decide +kernel) ?_
    refine zr_icmp_le hC dJ6_numberOfTrailingZeros_0f7a4_38 (tgt := 49) (by decide) (fun c_38 => ?_) (fun c => absurd c (by decide +kernel))
    refine zr_iload_n hC dJ6_numberOfTrailingZeros_0f7a4_49 rfl ?_
    refine zk_bipush hC dJ6_numberOfTrailingZeros_0f7a4_50 (v := nI 16) (by decide +kernel) ?_
    refine zr_icmp_le hC dJ6_numberOfTrailingZeros_0f7a4_52 (tgt := 62) (by decide) (fun c_52 => ?_) (fun c => absurd c (by decide +kernel))
    refine zr_iload_n hC dJ6_numberOfTrailingZeros_0f7a4_62 rfl ?_
    refine zk_iconst hC dJ6_numberOfTrailingZeros_0f7a4_63 (v := nI 4) (by decide +kernel) ?_
    refine zr_icmp_le hC dJ6_numberOfTrailingZeros_0f7a4_64 (tgt := 74) (by decide) (fun c => absurd c (by decide +kernel)) (fun c_64 => ?_)
    refine zn_iinc hC dJ6_numberOfTrailingZeros_0f7a4_67 rfl (by decide) (v := nI 19) (by decide +kernel) ?_
    refine zr_iload_n hC dJ6_numberOfTrailingZeros_0f7a4_70 rfl ?_
    refine zk_iconst hC dJ6_numberOfTrailingZeros_0f7a4_71 (v := nI 2) (by decide +kernel) ?_
    refine zn_iushr hC dJ6_numberOfTrailingZeros_0f7a4_72 (v := nI 3) (by decide +kernel) ?_
    refine zr_istore_n hC dJ6_numberOfTrailingZeros_0f7a4_73 (by decide) ?_
    refine zr_iload_n hC dJ6_numberOfTrailingZeros_0f7a4_74 rfl ?_
    refine zr_iload_n hC dJ6_numberOfTrailingZeros_0f7a4_75 rfl ?_
    refine zk_iconst hC dJ6_numberOfTrailingZeros_0f7a4_76 (v := nI 1) (by decide +kernel) ?_
    refine zn_iushr hC dJ6_numberOfTrailingZeros_0f7a4_77 (v := nI 1) (by decide +kernel) ?_
    refine zn_iadd hC dJ6_numberOfTrailingZeros_0f7a4_78 (v := nI 20) (by decide +kernel) ?_
    exact zr_ireturn hC hE dJ6_numberOfTrailingZeros_0f7a4_79 (hr _ _ (hQ))
  · refine zr_istore_n hC dJ6_numberOfTrailingZeros_0f7a4_7 (by decide) ?_
    refine zr_iload_n hC dJ6_numberOfTrailingZeros_0f7a4_8 rfl ?_
    refine zr_if_gt hC dJ6_numberOfTrailingZeros_0f7a4_9 (tgt := 17) (by decide) (fun c_9 => ?_) (fun c => absurd c (by decide +kernel))
    refine zk_iconst hC dJ6_numberOfTrailingZeros_0f7a4_17 (v := nI 1) (by decide +kernel) ?_
    refine zr_istore_n hC dJ6_numberOfTrailingZeros_0f7a4_18 (by decide) ?_
    refine zr_iload_n hC dJ6_numberOfTrailingZeros_0f7a4_19 rfl ?_
    refine zr_ldcw hC dJ6_numberOfTrailingZeros_0f7a4_20 kc_J6_264 ?_
    refine zr_icmp_le hC dJ6_numberOfTrailingZeros_0f7a4_23 (tgt := 34) (by decide) (fun c => absurd c (by decide +kernel)) (fun c_23 => ?_)
    refine zn_iinc hC dJ6_numberOfTrailingZeros_0f7a4_26 rfl (by decide) (v := nI 17) (by decide +kernel) ?_
    refine zr_iload_n hC dJ6_numberOfTrailingZeros_0f7a4_29 rfl ?_
    refine zk_bipush hC dJ6_numberOfTrailingZeros_0f7a4_30 (v := nI 16) (by decide +kernel) ?_
    refine zn_iushr hC dJ6_numberOfTrailingZeros_0f7a4_32 (v := nI 31) (by decide +kernel) ?_
    refine zr_istore_n hC dJ6_numberOfTrailingZeros_0f7a4_33 (by decide) ?_
    refine zr_iload_n hC dJ6_numberOfTrailingZeros_0f7a4_34 rfl ?_
    refine zk_sipush hC dJ6_numberOfTrailingZeros_0f7a4_35 (v := nI 256) (by decide +kernel) ?_
    refine zr_icmp_le hC dJ6_numberOfTrailingZeros_0f7a4_38 (tgt := 49) (by decide) (fun c_38 => ?_) (fun c => absurd c (by decide +kernel))
    refine zr_iload_n hC dJ6_numberOfTrailingZeros_0f7a4_49 rfl ?_
    refine zk_bipush hC dJ6_numberOfTrailingZeros_0f7a4_50 (v := nI 16) (by decide +kernel) ?_
    refine zr_icmp_le hC dJ6_numberOfTrailingZeros_0f7a4_52 (tgt := 62) (by decide) (fun c => absurd c (by decide +kernel)) (fun c_52 => ?_)
    refine zn_iinc hC dJ6_numberOfTrailingZeros_0f7a4_55 rfl (by decide) (v := nI 21) (by decide +kernel) ?_
    refine zr_iload_n hC dJ6_numberOfTrailingZeros_0f7a4_58 rfl ?_
    refine zk_iconst hC dJ6_numberOfTrailingZeros_0f7a4_59 (v := nI 4) (by decide +kernel) ?_
    refine zn_iushr hC dJ6_numberOfTrailingZeros_0f7a4_60 (v := nI 1) (by decide +kernel) ?_
    refine zr_istore_n hC dJ6_numberOfTrailingZeros_0f7a4_61 (by decide) ?_
    refine zr_iload_n hC dJ6_numberOfTrailingZeros_0f7a4_62 rfl ?_
    refine zk_iconst hC dJ6_numberOfTrailingZeros_0f7a4_63 (v := nI 4) (by decide +kernel) ?_
    refine zr_icmp_le hC dJ6_numberOfTrailingZeros_0f7a4_64 (tgt := 74) (by decide) (fun c_64 => ?_) (fun c => absurd c (by decide +kernel))
    refine zr_iload_n hC dJ6_numberOfTrailingZeros_0f7a4_74 rfl ?_
    refine zr_iload_n hC dJ6_numberOfTrailingZeros_0f7a4_75 rfl ?_
    refine zk_iconst hC dJ6_numberOfTrailingZeros_0f7a4_76 (v := nI 1) (by decide +kernel) ?_
    refine zn_iushr hC dJ6_numberOfTrailingZeros_0f7a4_77 (v := nI 0) (by decide +kernel) ?_
    refine zn_iadd hC dJ6_numberOfTrailingZeros_0f7a4_78 (v := nI 21) (by decide +kernel) ?_
    exact zr_ireturn hC hE dJ6_numberOfTrailingZeros_0f7a4_79 (hr _ _ (hQ))
  · refine zr_istore_n hC dJ6_numberOfTrailingZeros_0f7a4_7 (by decide) ?_
    refine zr_iload_n hC dJ6_numberOfTrailingZeros_0f7a4_8 rfl ?_
    refine zr_if_gt hC dJ6_numberOfTrailingZeros_0f7a4_9 (tgt := 17) (by decide) (fun c_9 => ?_) (fun c => absurd c (by decide +kernel))
    refine zk_iconst hC dJ6_numberOfTrailingZeros_0f7a4_17 (v := nI 1) (by decide +kernel) ?_
    refine zr_istore_n hC dJ6_numberOfTrailingZeros_0f7a4_18 (by decide) ?_
    refine zr_iload_n hC dJ6_numberOfTrailingZeros_0f7a4_19 rfl ?_
    refine zr_ldcw hC dJ6_numberOfTrailingZeros_0f7a4_20 kc_J6_264 ?_
    refine zr_icmp_le hC dJ6_numberOfTrailingZeros_0f7a4_23 (tgt := 34) (by decide) (fun c => absurd c (by decide +kernel)) (fun c_23 => ?_)
    refine zn_iinc hC dJ6_numberOfTrailingZeros_0f7a4_26 rfl (by decide) (v := nI 17) (by decide +kernel) ?_
    refine zr_iload_n hC dJ6_numberOfTrailingZeros_0f7a4_29 rfl ?_
    refine zk_bipush hC dJ6_numberOfTrailingZeros_0f7a4_30 (v := nI 16) (by decide +kernel) ?_
    refine zn_iushr hC dJ6_numberOfTrailingZeros_0f7a4_32 (v := nI 63) (by decide +kernel) ?_
    refine zr_istore_n hC dJ6_numberOfTrailingZeros_0f7a4_33 (by decide) ?_
    refine zr_iload_n hC dJ6_numberOfTrailingZeros_0f7a4_34 rfl ?_
    refine zk_sipush hC dJ6_numberOfTrailingZeros_0f7a4_35 (v := nI 256) (by decide +kernel) ?_
    refine zr_icmp_le hC dJ6_numberOfTrailingZeros_0f7a4_38 (tgt := 49) (by decide) (fun c_38 => ?_) (fun c => absurd c (by decide +kernel))
    refine zr_iload_n hC dJ6_numberOfTrailingZeros_0f7a4_49 rfl ?_
    refine zk_bipush hC dJ6_numberOfTrailingZeros_0f7a4_50 (v := nI 16) (by decide +kernel) ?_
    refine zr_icmp_le hC dJ6_numberOfTrailingZeros_0f7a4_52 (tgt := 62) (by decide) (fun c => absurd c (by decide +kernel)) (fun c_52 => ?_)
    refine zn_iinc hC dJ6_numberOfTrailingZeros_0f7a4_55 rfl (by decide) (v := nI 21) (by decide +kernel) ?_
    refine zr_iload_n hC dJ6_numberOfTrailingZeros_0f7a4_58 rfl ?_
    refine zk_iconst hC dJ6_numberOfTrailingZeros_0f7a4_59 (v := nI 4) (by decide +kernel) ?_
    refine zn_iushr hC dJ6_numberOfTrailingZeros_0f7a4_60 (v := nI 3) (by decide +kernel) ?_
    refine zr_istore_n hC dJ6_numberOfTrailingZeros_0f7a4_61 (by decide) ?_
    refine zr_iload_n hC dJ6_numberOfTrailingZeros_0f7a4_62 rfl ?_
    refine zk_iconst hC dJ6_numberOfTrailingZeros_0f7a4_63 (v := nI 4) (by decide +kernel) ?_
    refine zr_icmp_le hC dJ6_numberOfTrailingZeros_0f7a4_64 (tgt := 74) (by decide) (fun c_64 => ?_) (fun c => absurd c (by decide +kernel))
    refine zr_iload_n hC dJ6_numberOfTrailingZeros_0f7a4_74 rfl ?_
    refine zr_iload_n hC dJ6_numberOfTrailingZeros_0f7a4_75 rfl ?_
    refine zk_iconst hC dJ6_numberOfTrailingZeros_0f7a4_76 (v := nI 1) (by decide +kernel) ?_
    refine zn_iushr hC dJ6_numberOfTrailingZeros_0f7a4_77 (v := nI 1) (by decide +kernel) ?_
    refine zn_iadd hC dJ6_numberOfTrailingZeros_0f7a4_78 (v := nI 22) (by decide +kernel) ?_
    exact zr_ireturn hC hE dJ6_numberOfTrailingZeros_0f7a4_79 (hr _ _ (hQ))
  · refine zr_istore_n hC dJ6_numberOfTrailingZeros_0f7a4_7 (by decide) ?_
    refine zr_iload_n hC dJ6_numberOfTrailingZeros_0f7a4_8 rfl ?_
    refine zr_if_gt hC dJ6_numberOfTrailingZeros_0f7a4_9 (tgt := 17) (by decide) (fun c_9 => ?_) (fun c => absurd c (by decide +kernel))
    refine zk_iconst hC dJ6_numberOfTrailingZeros_0f7a4_17 (v := nI 1) (by decide +kernel) ?_
    refine zr_istore_n hC dJ6_numberOfTrailingZeros_0f7a4_18 (by decide) ?_
    refine zr_iload_n hC dJ6_numberOfTrailingZeros_0f7a4_19 rfl ?_
    refine zr_ldcw hC dJ6_numberOfTrailingZeros_0f7a4_20 kc_J6_264 ?_
    refine zr_icmp_le hC dJ6_numberOfTrailingZeros_0f7a4_23 (tgt := 34) (by decide) (fun c => absurd c (by decide +kernel)) (fun c_23 => ?_)
    refine zn_iinc hC dJ6_numberOfTrailingZeros_0f7a4_26 rfl (by decide) (v := nI 17) (by decide +kernel) ?_
    refine zr_iload_n hC dJ6_numberOfTrailingZeros_0f7a4_29 rfl ?_
    refine zk_bipush hC dJ6_numberOfTrailingZeros_0f7a4_30 (v := nI 16) (by decide +kernel) ?_
    refine zn_iushr hC dJ6_numberOfTrailingZeros_0f7a4_32 (v := nI 127) (by decide +kernel) ?_
    refine zr_istore_n hC dJ6_numberOfTrailingZeros_0f7a4_33 (by decide) ?_
    refine zr_iload_n hC dJ6_numberOfTrailingZeros_0f7a4_34 rfl ?_
    refine zk_sipush hC dJ6_numberOfTrailingZeros_0f7a4_35 (v := nI 256) (by decide +kernel) ?_
    refine zr_icmp_le hC dJ6_numberOfTrailingZeros_0f7a4_38 (tgt := 49) (by decide) (fun c_38 => ?_) (fun c => absurd c (by decide +kernel))
    refine zr_iload_n hC dJ6_numberOfTrailingZeros_0f7a4_49 rfl ?_
    refine zk_bipush hC dJ6_numberOfTrailingZeros_0f7a4_50 (v := nI 16) (by decide +kernel) ?_
    refine zr_icmp_le hC dJ6_numberOfTrailingZeros_0f7a4_52 (tgt := 62) (by decide) (fun c => absurd c (by decide +kernel)) (fun c_52 => ?_)
    refine zn_iinc hC dJ6_numberOfTrailingZeros_0f7a4_55 rfl (by decide) (v := nI 21) (by decide +kernel) ?_
    refine zr_iload_n hC dJ6_numberOfTrailingZeros_0f7a4_58 rfl ?_
    refine zk_iconst hC dJ6_numberOfTrailingZeros_0f7a4_59 (v := nI 4) (by decide +kernel) ?_
    refine zn_iushr hC dJ6_numberOfTrailingZeros_0f7a4_60 (v := nI 7) (by decide +kernel) ?_
    refine zr_istore_n hC dJ6_numberOfTrailingZeros_0f7a4_61 (by decide) ?_
    refine zr_iload_n hC dJ6_numberOfTrailingZeros_0f7a4_62 rfl ?_
    refine zk_iconst hC dJ6_numberOfTrailingZeros_0f7a4_63 (v := nI 4) (by decide +kernel) ?_
    refine zr_icmp_le hC dJ6_numberOfTrailingZeros_0f7a4_64 (tgt := 74) (by decide) (fun c => absurd c (by decide +kernel)) (fun c_64 => ?_)
    refine zn_iinc hC dJ6_numberOfTrailingZeros_0f7a4_67 rfl (by decide) (v := nI 23) (by decide +kernel) ?_
    refine zr_iload_n hC dJ6_numberOfTrailingZeros_0f7a4_70 rfl ?_
    refine zk_iconst hC dJ6_numberOfTrailingZeros_0f7a4_71 (v := nI 2) (by decide +kernel) ?_
    refine zn_iushr hC dJ6_numberOfTrailingZeros_0f7a4_72 (v := nI 1) (by decide +kernel) ?_
    refine zr_istore_n hC dJ6_numberOfTrailingZeros_0f7a4_73 (by decide) ?_
    refine zr_iload_n hC dJ6_numberOfTrailingZeros_0f7a4_74 rfl ?_
    refine zr_iload_n hC dJ6_numberOfTrailingZeros_0f7a4_75 rfl ?_
    refine zk_iconst hC dJ6_numberOfTrailingZeros_0f7a4_76 (v := nI 1) (by decide +kernel) ?_
    refine zn_iushr hC dJ6_numberOfTrailingZeros_0f7a4_77 (v := nI 0) (by decide +kernel) ?_
    refine zn_iadd hC dJ6_numberOfTrailingZeros_0f7a4_78 (v := nI 23) (by decide +kernel) ?_
    exact zr_ireturn hC hE dJ6_numberOfTrailingZeros_0f7a4_79 (hr _ _ (hQ))
  · refine zr_istore_n hC dJ6_numberOfTrailingZeros_0f7a4_7 (by decide) ?_
    refine zr_iload_n hC dJ6_numberOfTrailingZeros_0f7a4_8 rfl ?_
    refine zr_if_gt hC dJ6_numberOfTrailingZeros_0f7a4_9 (tgt := 17) (by decide) (fun c_9 => ?_) (fun c => absurd c (by decide +kernel))
    refine zk_iconst hC dJ6_numberOfTrailingZeros_0f7a4_17 (v := nI 1) (by decide +kernel) ?_
    refine zr_istore_n hC dJ6_numberOfTrailingZeros_0f7a4_18 (by decide) ?_
    refine zr_iload_n hC dJ6_numberOfTrailingZeros_0f7a4_19 rfl ?_
    refine zr_ldcw hC dJ6_numberOfTrailingZeros_0f7a4_20 kc_J6_264 ?_
    refine zr_icmp_le hC dJ6_numberOfTrailingZeros_0f7a4_23 (tgt := 34) (by decide) (fun c => absurd c (by decide +kernel)) (fun c_23 => ?_)
    refine zn_iinc hC dJ6_numberOfTrailingZeros_0f7a4_26 rfl (by decide) (v := nI 17) (by decide +kernel) ?_
    refine zr_iload_n hC dJ6_numberOfTrailingZeros_0f7a4_29 rfl ?_
    refine zk_bipush hC dJ6_numberOfTrailingZeros_0f7a4_30 (v := nI 16) (by decide +kernel) ?_
    refine zn_iushr hC dJ6_numberOfTrailingZeros_0f7a4_32 (v := nI 255) (by decide +kernel) ?_
    refine zr_istore_n hC dJ6_numberOfTrailingZeros_0f7a4_33 (by decide) ?_
    refine zr_iload_n hC dJ6_numberOfTrailingZeros_0f7a4_34 rfl ?_
    refine zk_sipush hC dJ6_numberOfTrailingZeros_0f7a4_35 (v := nI 256) (by decide +kernel) ?_
    refine zr_icmp_le hC dJ6_numberOfTrailingZeros_0f7a4_38 (tgt := 49) (by decide) (fun c_38 => ?_) (fun c => absurd c (by decide +kernel))
    refine zr_iload_n hC dJ6_numberOfTrailingZeros_0f7a4_49 rfl ?_
    refine zk_bipush hC dJ6_numberOfTrailingZeros_0f7a4_50 (v := nI 16) (by decide +kernel) ?_
    refine zr_icmp_le hC dJ6_numberOfTrailingZeros_0f7a4_52 (tgt := 62) (by decide) (fun c => absurd c (by decide +kernel)) (fun c_52 => ?_)
    refine zn_iinc hC dJ6_numberOfTrailingZeros_0f7a4_55 rfl (by decide) (v := nI 21) (by decide +kernel) ?_
    refine zr_iload_n hC dJ6_numberOfTrailingZeros_0f7a4_58 rfl ?_
    refine zk_iconst hC dJ6_numberOfTrailingZeros_0f7a4_59 (v := nI 4) (by decide +kernel) ?_
    refine zn_iushr hC dJ6_numberOfTrailingZeros_0f7a4_60 (v := nI 15) (by decide +kernel) ?_
    refine zr_istore_n hC dJ6_numberOfTrailingZeros_0f7a4_61 (by decide) ?_
    refine zr_iload_n hC dJ6_numberOfTrailingZeros_0f7a4_62 rfl ?_
    refine zk_iconst hC dJ6_numberOfTrailingZeros_0f7a4_63 (v := nI 4) (by decide +kernel) ?_
    refine zr_icmp_le hC dJ6_numberOfTrailingZeros_0f7a4_64 (tgt := 74) (by decide) (fun c => absurd c (by decide +kernel)) (fun c_64 => ?_)
    refine zn_iinc hC dJ6_numberOfTrailingZeros_0f7a4_67 rfl (by decide) (v := nI 23) (by decide +kernel) ?_
    refine zr_iload_n hC dJ6_numberOfTrailingZeros_0f7a4_70 rfl ?_
    refine zk_iconst hC dJ6_numberOfTrailingZeros_0f7a4_71 (v := nI 2) (by decide +kernel) ?_
    refine zn_iushr hC dJ6_numberOfTrailingZeros_0f7a4_72 (v := nI 3) (by decide +kernel) ?_
    refine zr_istore_n hC dJ6_numberOfTrailingZeros_0f7a4_73 (by decide) ?_
    refine zr_iload_n hC dJ6_numberOfTrailingZeros_0f7a4_74 rfl ?_
    refine zr_iload_n hC dJ6_numberOfTrailingZeros_0f7a4_75 rfl ?_
    refine zk_iconst hC dJ6_numberOfTrailingZeros_0f7a4_76 (v := nI 1) (by decide +kernel) ?_
    refine zn_iushr hC dJ6_numberOfTrailingZeros_0f7a4_77 (v := nI 1) (by decide +kernel) ?_
    refine zn_iadd hC dJ6_numberOfTrailingZeros_0f7a4_78 (v := nI 24) (by decide +kernel) ?_
    exact zr_ireturn hC hE dJ6_numberOfTrailingZeros_0f7a4_79 (hr _ _ (hQ))
  · refine zr_istore_n hC dJ6_numberOfTrailingZeros_0f7a4_7 (by decide) ?_
    refine zr_iload_n hC dJ6_numberOfTrailingZeros_0f7a4_8 rfl ?_
    refine zr_if_gt hC dJ6_numberOfTrailingZeros_0f7a4_9 (tgt := 17) (by decide) (fun c_9 => ?_) (fun c => absurd c (by decide +kernel))
    refine zk_iconst hC dJ6_numberOfTrailingZeros_0f7a4_17 (v := nI 1) (by decide +kernel) ?_
    refine zr_istore_n hC dJ6_numberOfTrailingZeros_0f7a4_18 (by decide) ?_
    refine zr_iload_n hC dJ6_numberOfTrailingZeros_0f7a4_19 rfl ?_
    refine zr_ldcw hC dJ6_numberOfTrailingZeros_0f7a4_20 kc_J6_264 ?_
    refine zr_icmp_le hC dJ6_numberOfTrailingZeros_0f7a4_23 (tgt := 34) (by decide) (fun c => absurd c (by decide +kernel)) (fun c_23 => ?_)
    refine zn_iinc hC dJ6_numberOfTrailingZeros_0f7a4_26 rfl (by decide) (v := nI 17) (by decide +kernel) ?_
    refine zr_iload_n hC dJ6_numberOfTrailingZeros_0f7a4_29 rfl ?_
    refine zk_bipush hC dJ6_numberOfTrailingZeros_0f7a4_30 (v := nI 16) (by decide +kernel) ?_
    refine zn_iushr hC dJ6_numberOfTrailingZeros_0f7a4_32 (v := nI 511) (by decide +kernel) ?_
    refine zr_istore_n hC dJ6_numberOfTrailingZeros_0f7a4_33 (by decide) ?_
    refine zr_iload_n hC dJ6_numberOfTrailingZeros_0f7a4_34 rfl ?_
    refine zk_sipush hC dJ6_numberOfTrailingZeros_0f7a4_35 (v := nI 256) (by decide +kernel) ?_
    refine zr_icmp_le hC dJ6_numberOfTrailingZeros_0f7a4_38 (tgt := 49) (by decide) (fun c => absurd c (by decide +kernel)) (fun c_38 => ?_)
    refine zn_iinc hC dJ6_numberOfTrailingZeros_0f7a4_41 rfl (by decide) (v := nI 25) (by decide +kernel) ?_
    refine zr_iload_n hC dJ6_numberOfTrailingZeros_0f7a4_44 rfl ?_
    refine zk_bipush hC dJ6_numberOfTrailingZeros_0f7a4_45 (v := nI 8) (by decide +kernel) ?_
    refine zn_iushr hC dJ6_numberOfTrailingZeros_0f7a4_47 (v := nI 1) (by decide +kernel) ?_
    refine zr_istore_n hC dJ6_numberOfTrailingZeros_0f7a4_48 (by decide) ?_
    refine zr_iload_n hC dJ6_numberOfTrailingZeros_0f7a4_49 rfl ?_
    refine zk_bipush hC dJ6_numberOfTrailingZeros_0f7a4_50 (v := nI 16) (by decide +kernel) ?_
    refine zr_icmp_le hC dJ6_numberOfTrailingZeros_0f7a4_52 (tgt := 62) (by decide) (fun c_52 => ?_) (fun c => absurd c (by decide +kernel))
    refine zr_iload_n hC dJ6_numberOfTrailingZeros_0f7a4_62 rfl ?_
    refine zk_iconst hC dJ6_numberOfTrailingZeros_0f7a4_63 (v := nI 4) (by decide +kernel) ?_
    refine zr_icmp_le hC dJ6_numberOfTrailingZeros_0f7a4_64 (tgt := 74) (by decide) (fun c_64 => ?_) (fun c => absurd c (by decide +kernel))
    refine zr_iload_n hC dJ6_numberOfTrailingZeros_0f7a4_74 rfl ?_
    refine zr_iload_n hC dJ6_numberOfTrailingZeros_0f7a4_75 rfl ?_
    refine zk_iconst hC dJ6_numberOfTrailingZeros_0f7a4_76 (v := nI 1) (by decide +kernel) ?_
    refine zn_iushr hC dJ6_numberOfTrailingZeros_0f7a4_77 (v := nI 0) (by decide +kernel) ?_
    refine zn_iadd hC dJ6_numberOfTrailingZeros_0f7a4_78 (v := nI 25) (by decide +kernel) ?_
    exact zr_ireturn hC hE dJ6_numberOfTrailingZeros_0f7a4_79 (hr _ _ (hQ))
  · refine zr_istore_n hC dJ6_numberOfTrailingZeros_0f7a4_7 (by decide) ?_
    refine zr_iload_n hC dJ6_numberOfTrailingZeros_0f7a4_8 rfl ?_
    refine zr_if_gt hC dJ6_numberOfTrailingZeros_0f7a4_9 (tgt := 17) (by decide) (fun c_9 => ?_) (fun c => absurd c (by decide +kernel))
    refine zk_iconst hC dJ6_numberOfTrailingZeros_0f7a4_17 (v := nI 1) (by decide +kernel) ?_
    refine zr_istore_n hC dJ6_numberOfTrailingZeros_0f7a4_18 (by decide) ?_
    refine zr_iload_n hC dJ6_numberOfTrailingZeros_0f7a4_19 rfl ?_
    refine zr_ldcw hC dJ6_numberOfTrailingZeros_0f7a4_20 kc_J6_264 ?_
    refine zr_icmp_le hC dJ6_numberOfTrailingZeros_0f7a4_23 (tgt := 34) (by decide) (fun c => absurd c (by decide +kernel)) (fun c_23 => ?_)
    refine zn_iinc hC dJ6_numberOfTrailingZeros_0f7a4_26 rfl (by decide) (v := nI 17) (by decide +kernel) ?_
    refine zr_iload_n hC dJ6_numberOfTrailingZeros_0f7a4_29 rfl ?_
    refine zk_bipush hC dJ6_numberOfTrailingZeros_0f7a4_30 (v := nI 16) (by decide +kernel) ?_
    refine zn_iushr hC dJ6_numberOfTrailingZeros_0f7a4_32 (v := nI 1023) (by decide +kernel) ?_
    refine zr_istore_n hC dJ6_numberOfTrailingZeros_0f7a4_33 (by decide) ?_
    refine zr_iload_n hC dJ6_numberOfTrailingZeros_0f7a4_34 rfl ?_
    refine zk_sipush hC dJ6_numberOfTrailingZeros_0f7a4_35 (v := nI 256) (by decide +kernel) ?_
    refine zr_icmp_le hC dJ6_numberOfTrailingZeros_0f7a4_38 (tgt := 49) (by decide) (fun c => absurd c (by decide +kernel)) (fun c_38 => ?_)
    refine zn_iinc hC dJ6_numberOfTrailingZeros_0f7a4_41 rfl (by decide) (v := nI 25) (by decide +kernel) ?_
    refine zr_iload_n hC dJ6_numberOfTrailingZeros_0f7a4_44 rfl ?_
    refine zk_bipush hC dJ6_numberOfTrailingZeros_0f7a4_45 (v := nI 8) (by decide +kernel) ?_
    refine zn_iushr hC dJ6_numberOfTrailingZeros_0f7a4_47 (v := nI 3) (by decide +kernel) ?_
    refine zr_istore_n hC dJ6_numberOfTrailingZeros_0f7a4_48 (by decide) ?_
    refine zr_iload_n hC dJ6_numberOfTrailingZeros_0f7a4_49 rfl ?_
    refine zk_bipush hC dJ6_numberOfTrailingZeros_0f7a4_50 (v := nI 16) (by decide +kernel) ?_
    refine zr_icmp_le hC dJ6_numberOfTrailingZeros_0f7a4_52 (tgt := 62) (by decide) (fun c_52 => ?_) (fun c => absurd c (by decide +kernel))
    refine zr_iload_n hC dJ6_numberOfTrailingZeros_0f7a4_62 rfl ?_
    refine zk_iconst hC dJ6_numberOfTrailingZeros_0f7a4_63 (v := nI 4) (by decide +kernel) ?_
    refine zr_icmp_le hC dJ6_numberOfTrailingZeros_0f7a4_64 (tgt := 74) (by decide) (fun c_64 => ?_) (fun c => absurd c (by decide +kernel))
    refine zr_iload_n hC dJ6_numberOfTrailingZeros_0f7a4_74 rfl ?_
    refine zr_iload_n hC dJ6_numberOfTrailingZeros_0f7a4_75 rfl ?_
    refine zk_iconst hC dJ6_numberOfTrailingZeros_0f7a4_76 (v := nI 1) (by decide +kernel) ?_
    refine zn_iushr hC dJ6_numberOfTrailingZeros_0f7a4_77 (v := nI 1) (by decide +kernel) ?_
    refine zn_iadd hC dJ6_numberOfTrailingZeros_0f7a4_78 (v := nI 26) (by decide +kernel) ?_
    exact zr_ireturn hC hE dJ6_numberOfTrailingZeros_0f7a4_79 (hr _ _ (hQ))
  · refine zr_istore_n hC dJ6_numberOfTrailingZeros_0f7a4_7 (by decide) ?_
    refine zr_iload_n hC dJ6_numberOfTrailingZeros_0f7a4_8 rfl ?_
    refine zr_if_gt hC dJ6_numberOfTrailingZeros_0f7a4_9 (tgt := 17) (by decide) (fun c_9 => ?_) (fun c => absurd c (by decide +kernel))
    refine zk_iconst hC dJ6_numberOfTrailingZeros_0f7a4_17 (v := nI 1) (by decide +kernel) ?_
    refine zr_istore_n hC dJ6_numberOfTrailingZeros_0f7a4_18 (by decide) ?_
    refine zr_iload_n hC dJ6_numberOfTrailingZeros_0f7a4_19 rfl ?_
    refine zr_ldcw hC dJ6_numberOfTrailingZeros_0f7a4_20 kc_J6_264 ?_
    refine zr_icmp_le hC dJ6_numberOfTrailingZeros_0f7a4_23 (tgt := 34) (by decide) (fun c => absurd c (by decide +kernel)) (fun c_23 => ?_)
    refine zn_iinc hC dJ6_numberOfTrailingZeros_0f7a4_26 rfl (by decide) (v := nI 17) (by decide +kernel) ?_
    refine zr_iload_n hC dJ6_numberOfTrailingZeros_0f7a4_29 rfl ?_
    refine zk_bipush hC dJ6_numberOfTrailingZeros_0f7a4_30 (v := nI 16) (by decide +kernel) ?_
    refine zn_iushr hC dJ6_numberOfTrailingZeros_0f7a4_32 (v := nI 2047) (by decide +kernel) ?_
    refine zr_istore_n hC dJ6_numberOfTrailingZeros_0f7a4_33 (by decide) ?_
    refine zr_iload_n hC dJ6_numberOfTrailingZeros_0f7a4_34 rfl ?_
    refine zk_sipush hC dJ6_numberOfTrailingZeros_0f7a4_35 (v := nI 256) (by decide +kernel) ?_
    refine zr_icmp_le hC dJ6_numberOfTrailingZeros_0f7a4_38 (tgt := 49) (by decide) (fun c => absurd c (by decide +kernel)) (fun c_38 => ?_)
    refine zn_iinc hC dJ6_numberOfTrailingZeros_0f7a4_41 rfl (by decide) (v := nI 25) (by decide +kernel) ?_
    refine zr_iload_n hC dJ6_numberOfTrailingZeros_0f7a4_44 rfl ?_
    refine zk_bipush hC dJ6_numberOfTrailingZeros_0f7a4_45 (v := nI 8) (by decide +kernel) ?_
    refine zn_iushr hC dJ6_numberOfTrailingZeros_0f7a4_47 (v := nI 7) (by decide +kernel) ?_
    refine zr_istore_n hC dJ6_numberOfTrailingZeros_0f7a4_48 (by decide) ?_
    refine zr_iload_n hC dJ6_numberOfTrailingZeros_0f7a4_49 rfl ?_
    refine zk_bipush hC dJ6_numberOfTrailingZeros_0f7a4_50 (v := nI 16) (by decide +kernel) ?_
    refine zr_icmp_le hC dJ6_numberOfTrailingZeros_0f7a4_52 (tgt := 62) (by decide) (fun c_52 => ?_) (fun c => absurd c (by decide +kernel))
    refine zr_iload_n hC dJ6_numberOfTrailingZeros_0f7a4_62 rfl ?_
    refine zk_iconst hC dJ6_numberOfTrailingZeros_0f7a4_63 (v := nI 4) (by decide +kernel) ?_
    refine zr_icmp_le hC dJ6_numberOfTrailingZeros_0f7a4_64 (tgt := 74) (by decide) (fun c => absurd c (by decide +kernel)) (fun c_64 => ?_)
    refine zn_iinc hC dJ6_numberOfTrailingZeros_0f7a4_67 rfl (by decide) (v := nI 27) (by decide +kernel) ?_
    refine zr_iload_n hC dJ6_numberOfTrailingZeros_0f7a4_70 rfl ?_
    refine zk_iconst hC dJ6_numberOfTrailingZeros_0f7a4_71 (v := nI 2) (by decide +kernel) ?_
    refine zn_iushr hC dJ6_numberOfTrailingZeros_0f7a4_72 (v := nI 1) (by decide +kernel) ?_
    refine zr_istore_n hC dJ6_numberOfTrailingZeros_0f7a4_73 (by decide) ?_
    refine zr_iload_n hC dJ6_numberOfTrailingZeros_0f7a4_74 rfl ?_
    refine zr_iload_n hC dJ6_numberOfTrailingZeros_0f7a4_75 rfl ?_
    refine zk_iconst hC dJ6_numberOfTrailingZeros_0f7a4_76 (v := nI 1) (by decide +kernel) ?_
    refine zn_iushr hC dJ6_numberOfTrailingZeros_0f7a4_77 (v := nI 0) (by decide +kernel) ?_
    refine zn_iadd hC dJ6_numberOfTrailingZeros_0f7a4_78 (v := nI 27) (by decide +kernel) ?_
    exact zr_ireturn hC hE dJ6_numberOfTrailingZeros_0f7a4_79 (hr _ _ (hQ))
  · refine zr_istore_n hC dJ6_numberOfTrailingZeros_0f7a4_7 (by decide) ?_
    refine zr_iload_n hC dJ6_numberOfTrailingZeros_0f7a4_8 rfl ?_
    refine zr_if_gt hC dJ6_numberOfTrailingZeros_0f7a4_9 (tgt := 17) (by decide) (fun c_9 => ?_) (fun c => absurd c (by decide +kernel))
    refine zk_iconst hC dJ6_numberOfTrailingZeros_0f7a4_17 (v := nI 1) (by decide +kernel) ?_
    refine zr_istore_n hC dJ6_numberOfTrailingZeros_0f7a4_18 (by decide) ?_
    refine zr_iload_n hC dJ6_numberOfTrailingZeros_0f7a4_19 rfl ?_
    refine zr_ldcw hC dJ6_numberOfTrailingZeros_0f7a4_20 kc_J6_264 ?_
    refine zr_icmp_le hC dJ6_numberOfTrailingZeros_0f7a4_23 (tgt := 34) (by decide) (fun c => absurd c (by decide +kernel)) (fun c_23 => ?_)
    refine zn_iinc hC dJ6_numberOfTrailingZeros_0f7a4_26 rfl (by decide) (v := nI 17) (by decide +kernel) ?_
    refine zr_iload_n hC dJ6_numberOfTrailingZeros_0f7a4_29 rfl ?_
    refine zk_bipush hC dJ6_numberOfTrailingZeros_0f7a4_30 (v := nI 16) (by decide +kernel) ?_
    refine zn_iushr hC dJ6_numberOfTrailingZeros_0f7a4_32 (v := nI 4095) (by decide +kernel) ?_
    refine zr_istore_n hC dJ6_numberOfTrailingZeros_0f7a4_33 (by decide) ?_
    refine zr_iload_n hC dJ6_numberOfTrailingZeros_0f7a4_34 rfl ?_
    refine zk_sipush hC dJ6_numberOfTrailingZeros_0f7a4_35 (v := nI 256) (by decide +kernel) ?_
    refine zr_icmp_le hC dJ6_numberOfTrailingZeros_0f7a4_38 (tgt := 49) (by decide) (fun c => absurd c (by decide +kernel)) (fun c_38 => ?_)
    refine zn_iinc hC dJ6_numberOfTrailingZeros_0f7a4_41 rfl (by decide) (v := nI 25) (by decide +kernel) ?_
    refine zr_iload_n hC dJ6_numberOfTrailingZeros_0f7a4_44 rfl ?_
    refine zk_bipush hC dJ6_numberOfTrailingZeros_0f7a4_45 (v := nI 8) (by decide +kernel) ?_
    refine zn_iushr hC dJ6_numberOfTrailingZeros_0f7a4_47 (v := nI 15) (by decide +kernel) ?_
    refine zr_istore_n hC dJ6_numberOfTrailingZeros_0f7a4_48 (by decide) ?_
    refine zr_iload_n hC dJ6_numberOfTrailingZeros_0f7a4_49 rfl ?_
    refine zk_bipush hC dJ6_numberOfTrailingZeros_0f7a4_50 (v := nI 16) (by decide +kernel) ?_
    refine zr_icmp_le hC dJ6_numberOfTrailingZeros_0f7a4_52 (tgt := 62) (by decide) (fun c_52 => ?_) (fun c => absurd c (by decide +kernel))
    refine zr_iload_n hC dJ6_numberOfTrailingZeros_0f7a4_62 rfl ?_
    refine zk_iconst hC dJ6_numberOfTrailingZeros_0f7a4_63 (v := nI 4) (by decide +kernel) ?_
    refine zr_icmp_le hC dJ6_numberOfTrailingZeros_0f7a4_64 (tgt := 74) (by decide) (fun c => absurd c (by decide +kernel)) (fun c_64 => ?_)
    refine zn_iinc hC dJ6_numberOfTrailingZeros_0f7a4_67 rfl (by decide) (v := nI 27) (by decide +kernel) ?_
    refine zr_iload_n hC dJ6_numberOfTrailingZeros_0f7a4_70 rfl ?_
    refine zk_iconst hC dJ6_numberOfTrailingZeros_0f7a4_71 (v := nI 2) (by decide +kernel) ?_
    refine zn_iushr hC dJ6_numberOfTrailingZeros_0f7a4_72 (v := nI 3) (by decide +kernel) ?_
    refine zr_istore_n hC dJ6_numberOfTrailingZeros_0f7a4_73 (by decide) ?_
    refine zr_iload_n hC dJ6_numberOfTrailingZeros_0f7a4_74 rfl ?_
    refine zr_iload_n hC dJ6_numberOfTrailingZeros_0f7a4_75 rfl ?_
    refine zk_iconst hC dJ6_numberOfTrailingZeros_0f7a4_76 (v := nI 1) (by decide +kernel) ?_
    refine zn_iushr hC dJ6_numberOfTrailingZeros_0f7a4_77 (v := nI 1) (by decide +kernel) ?_
    refine zn_iadd hC dJ6_numberOfTrailingZeros_0f7a4_78 (v := nI 28) (by decide +kernel) ?_
    exact zr_ireturn hC hE dJ6_numberOfTrailingZeros_0f7a4_79 (hr _ _ (hQ))
  · refine zr_istore_n hC dJ6_numberOfTrailingZeros_0f7a4_7 (by decide) ?_
    refine zr_iload_n hC dJ6_numberOfTrailingZeros_0f7a4_8 rfl ?_
    refine zr_if_gt hC dJ6_numberOfTrailingZeros_0f7a4_9 (tgt := 17) (by decide) (fun c_9 => ?_) (fun c => absurd c (by decide +kernel))
    refine zk_iconst hC dJ6_numberOfTrailingZeros_0f7a4_17 (v := nI 1) (by decide +kernel) ?_
    refine zr_istore_n hC dJ6_numberOfTrailingZeros_0f7a4_18 (by decide) ?_
    refine zr_iload_n hC dJ6_numberOfTrailingZeros_0f7a4_19 rfl ?_
    refine zr_ldcw hC dJ6_numberOfTrailingZeros_0f7a4_20 kc_J6_264 ?_
    refine zr_icmp_le hC dJ6_numberOfTrailingZeros_0f7a4_23 (tgt := 34) (by decide) (fun c => absurd c (by decide +kernel)) (fun c_23 => ?_)
    refine zn_iinc hC dJ6_numberOfTrailingZeros_0f7a4_26 rfl (by decide) (v := nI 17) (by decide +kernel) ?_
    refine zr_iload_n hC dJ6_numberOfTrailingZeros_0f7a4_29 rfl ?_
    refine zk_bipush hC dJ6_numberOfTrailingZeros_0f7a4_30 (v := nI 16) (by decide +kernel) ?_
    refine zn_iushr hC dJ6_numberOfTrailingZeros_0f7a4_32 (v := nI 8191) (by decide +kernel) ?_
    refine zr_istore_n hC dJ6_numberOfTrailingZeros_0f7a4_33 (by decide) ?_
    refine zr_iload_n hC dJ6_numberOfTrailingZeros_0f7a4_34 rfl ?_
    refine zk_sipush hC dJ6_numberOfTrailingZeros_0f7a4_35 (v := nI 256) (by decide +kernel) ?_
    refine zr_icmp_le hC dJ6_numberOfTrailingZeros_0f7a4_38 (tgt := 49) (by decide) (fun c => absurd c (by decide +kernel)) (fun c_38 => ?_)
    refine zn_iinc hC dJ6_numberOfTrailingZeros_0f7a4_41 rfl (by decide) (v := nI 25) (by decide +kernel) ?_
    refine zr_iload_n hC dJ6_numberOfTrailingZeros_0f7a4_44 rfl ?_
    refine zk_bipush hC dJ6_numberOfTrailingZeros_0f7a4_45 (v := nI 8) (by decide +kernel) ?_
    refine zn_iushr hC dJ6_numberOfTrailingZeros_0f7a4_47 (v := nI 31) (by decide +kernel) ?_
    refine zr_istore_n hC dJ6_numberOfTrailingZeros_0f7a4_48 (by decide) ?_
    refine zr_iload_n hC dJ6_numberOfTrailingZeros_0f7a4_49 rfl ?_
    refine zk_bipush hC dJ6_numberOfTrailingZeros_0f7a4_50 (v := nI 16) (by decide +kernel) ?_
    refine zr_icmp_le hC dJ6_numberOfTrailingZeros_0f7a4_52 (tgt := 62) (by decide) (fun c => absurd c (by decide +kernel)) (fun c_52 => ?_)
    refine zn_iinc hC dJ6_numberOfTrailingZeros_0f7a4_55 rfl (by decide) (v := nI 29) (by decide +kernel) ?_
    refine zr_iload_n hC dJ6_numberOfTrailingZeros_0f7a4_58 rfl ?_
    refine zk_iconst hC dJ6_numberOfTrailingZeros_0f7a4_59 (v := nI 4) (by decide +kernel) ?_
    refine zn_iushr hC dJ6_numberOfTrailingZeros_0f7a4_60 (v := nI 1) (by decide +kernel) ?_
    refine zr_istore_n hC dJ6_numberOfTrailingZeros_0f7a4_61 (by decide) ?_
    refine zr_iload_n hC dJ6_numberOfTrailingZeros_0f7a4_62 rfl ?_
    refine zk_iconst hC dJ6_numberOfTrailingZeros_0f7a4_63 (v := nI 4) (by decide +kernel) ?_
    refine zr_icmp_le hC dJ6_numberOfTrailingZeros_0f7a4_64 (tgt := 74) (by decide) (fun c_64 => ?_) (fun c => absurd c (by decide +kernel))
    refine zr_iload_n hC dJ6_numberOfTrailingZeros_0f7a4_74 rfl ?_
    refine zr_iload_n hC dJ6_numberOfTrailingZeros_0f7a4_75 rfl ?_
    refine zk_iconst hC dJ6_numberOfTrailingZeros_0f7a4_76 (v := nI 1) (by decide +kernel) ?_
    refine zn_iushr hC dJ6_numberOfTrailingZeros_0f7a4_77 (v := nI 0) (by decide +kernel) ?_
    refine zn_iadd hC dJ6_numberOfTrailingZeros_0f7a4_78 (v := nI 29) (by decide +kernel) ?_
    exact zr_ireturn hC hE dJ6_numberOfTrailingZeros_0f7a4_79 (hr _ _ (hQ))
  · refine zr_istore_n hC dJ6_numberOfTrailingZeros_0f7a4_7 (by decide) ?_
    refine zr_iload_n hC dJ6_numberOfTrailingZeros_0f7a4_8 rfl ?_
    refine zr_if_gt hC dJ6_numberOfTrailingZeros_0f7a4_9 (tgt := 17) (by decide) (fun c_9 => ?_) (fun c => absurd c (by decide +kernel))
    refine zk_iconst hC dJ6_numberOfTrailingZeros_0f7a4_17 (v := nI 1) (by decide +kernel) ?_
    refine zr_istore_n hC dJ6_numberOfTrailingZeros_0f7a4_18 (by decide) ?_
    refine zr_iload_n hC dJ6_numberOfTrailingZeros_0f7a4_19 rfl ?_
    refine zr_ldcw hC dJ6_numberOfTrailingZeros_0f7a4_20 kc_J6_264 ?_
    refine zr_icmp_le hC dJ6_numberOfTrailingZeros_0f7a4_23 (tgt := 34) (by decide) (fun c => absurd c (by decide +kernel)) (fun c_23 => ?_)
    refine zn_iinc hC dJ6_numberOfTrailingZeros_0f7a4_26 rfl (by decide) (v := nI 17) (by decide +kernel) ?_
    refine zr_iload_n hC dJ6_numberOfTrailingZeros_0f7a4_29 rfl ?_
    refine zk_bipush hC dJ6_numberOfTrailingZeros_0f7a4_30 (v := nI 16) (by decide +kernel) ?_
    refine zn_iushr hC dJ6_numberOfTrailingZeros_0f7a4_32 (v := nI 16383) (by decide +kernel) ?_
    refine zr_istore_n hC dJ6_numberOfTrailingZeros_0f7a4_33 (by decide) ?_
    refine zr_iload_n hC dJ6_numberOfTrailingZeros_0f7a4_34 rfl ?_
    refine zk_sipush hC dJ6_numberOfTrailingZeros_0f7a4_35 (v := nI 256) (by decide +kernel) ?_
    refine zr_icmp_le hC dJ6_numberOfTrailingZeros_0f7a4_38 (tgt := 49) (by decide) (fun c => absurd c (by decide +kernel)) (fun c_38 => ?_)
    refine zn_iinc hC dJ6_numberOfTrailingZeros_0f7a4_41 rfl (by decide) (v := nI 25) (by decide +kernel) ?_
    refine zr_iload_n hC dJ6_numberOfTrailingZeros_0f7a4_44 rfl ?_
    refine zk_bipush hC dJ6_numberOfTrailingZeros_0f7a4_45 (v := nI 8) (by decide +kernel) ?_
    refine zn_iushr hC dJ6_numberOfTrailingZeros_0f7a4_47 (v := nI 63) (by decide +kernel) ?_
    refine zr_istore_n hC dJ6_numberOfTrailingZeros_0f7a4_48 (by decide) ?_
    refine zr_iload_n hC dJ6_numberOfTrailingZeros_0f7a4_49 rfl ?_
    refine zk_bipush hC dJ6_numberOfTrailingZeros_0f7a4_50 (v := nI 16) (by decide +kernel) ?_
    refine zr_icmp_le hC dJ6_numberOfTrailingZeros_0f7a4_52 (tgt := 62) (by decide) (fun c => absurd c (by decide +kernel)) (fun c_52 => ?_)
    refine zn_iinc hC dJ6_numberOfTrailingZeros_0f7a4_55 rfl (by decide) (v := nI 29) (by decide +kernel) ?_
    refine zr_iload_n hC dJ6_numberOfTrailingZeros_0f7a4_58 rfl ?_
    refine zk_iconst hC dJ6_numberOfTrailingZeros_0f7a4_59 (v := nI 4) (by decide +kernel) ?_
    refine zn_iushr hC dJ6_numberOfTrailingZeros_0f7a4_60 (v := nI 3) (by decide +kernel) ?_
    refine zr_istore_n hC dJ6_numberOfTrailingZeros_0f7a4_61 (by decide) ?_
    refine zr_iload_n hC dJ6_numberOfTrailingZeros_0f7a4_62 rfl ?_
    refine zk_iconst hC dJ6_numberOfTrailingZeros_0f7a4_63 (v := nI 4) (by decide +kernel) ?_
    refine zr_icmp_le hC dJ6_numberOfTrailingZeros_0f7a4_64 (tgt := 74) (by decide) (fun c_64 => ?_) (fun c => absurd c (by decide +kernel))
    refine zr_iload_n hC dJ6_numberOfTrailingZeros_0f7a4_74 rfl ?_
    refine zr_iload_n hC dJ6_numberOfTrailingZeros_0f7a4_75 rfl ?_
    refine zk_iconst hC dJ6_numberOfTrailingZeros_0f7a4_76 (v := nI 1) (by decide +kernel) ?_
    refine zn_iushr hC dJ6_numberOfTrailingZeros_0f7a4_77 (v := nI 1) (by decide +kernel) ?_
    refine zn_iadd hC dJ6_numberOfTrailingZeros_0f7a4_78 (v := nI 30) (by decide +kernel) ?_
    exact zr_ireturn hC hE dJ6_numberOfTrailingZeros_0f7a4_79 (hr _ _ (hQ))
  · refine zr_istore_n hC dJ6_numberOfTrailingZeros_0f7a4_7 (by decide) ?_
    refine zr_iload_n hC dJ6_numberOfTrailingZeros_0f7a4_8 rfl ?_
    refine zr_if_gt hC dJ6_numberOfTrailingZeros_0f7a4_9 (tgt := 17) (by decide) (fun c_9 => ?_) (fun c => absurd c (by decide +kernel))
    refine zk_iconst hC dJ6_numberOfTrailingZeros_0f7a4_17 (v := nI 1) (by decide +kernel) ?_
    refine zr_istore_n hC dJ6_numberOfTrailingZeros_0f7a4_18 (by decide) ?_
    refine zr_iload_n hC dJ6_numberOfTrailingZeros_0f7a4_19 rfl ?_
    refine zr_ldcw hC dJ6_numberOfTrailingZeros_0f7a4_20 kc_J6_264 ?_
    refine zr_icmp_le hC dJ6_numberOfTrailingZeros_0f7a4_23 (tgt := 34) (by decide) (fun c => absurd c (by decide +kernel)) (fun c_23 => ?_)
    refine zn_iinc hC dJ6_numberOfTrailingZeros_0f7a4_26 rfl (by decide) (v := nI 17) (by decide +kernel) ?_
    refine zr_iload_n hC dJ6_numberOfTrailingZeros_0f7a4_29 rfl ?_
    refine zk_bipush hC dJ6_numberOfTrailingZeros_0f7a4_30 (v := nI 16) (by decide +kernel) ?_
    refine zn_iushr hC dJ6_numberOfTrailingZeros_0f7a4_32 (v := nI 32767) (by decide +kernel) ?_
    refine zr_istore_n hC dJ6_numberOfTrailingZeros_0f7a4_33 (by decide) ?_
    refine zr_iload_n hC dJ6_numberOfTrailingZeros_0f7a4_34 rfl ?_
    refine zk_sipush hC dJ6_numberOfTrailingZeros_0f7a4_35 (v := nI 256) (by decide +kernel) ?_
    refine zr_icmp_le hC dJ6_numberOfTrailingZeros_0f7a4_38 (tgt := 49) (by decide) (fun c => absurd c (by decide +kernel)) (fun c_38 => ?_)
    refine zn_iinc hC dJ6_numberOfTrailingZeros_0f7a4_41 rfl (by decide) (v := nI 25) (by decide +kernel) ?_
    refine zr_iload_n hC dJ6_numberOfTrailingZeros_0f7a4_44 rfl ?_
    refine zk_bipush hC dJ6_numberOfTrailingZeros_0f7a4_45 (v := nI 8) (by decide +kernel) ?_
    refine zn_iushr hC dJ6_numberOfTrailingZeros_0f7a4_47 (v := nI 127) (by decide +kernel) ?_
    refine zr_istore_n hC dJ6_numberOfTrailingZeros_0f7a4_48 (by decide) ?_
    refine zr_iload_n hC dJ6_numberOfTrailingZeros_0f7a4_49 rfl ?_
    refine zk_bipush hC dJ6_numberOfTrailingZeros_0f7a4_50 (v := nI 16) (by decide +kernel) ?_
    refine zr_icmp_le hC dJ6_numberOfTrailingZeros_0f7a4_52 (tgt := 62) (by decide) (fun c => absurd c (by decide +kernel)) (fun c_52 => ?_)
    refine zn_iinc hC dJ6_numberOfTrailingZeros_0f7a4_55 rfl (by decide) (v := nI 29) (by decide +kernel) ?_
    refine zr_iload_n hC dJ6_numberOfTrailingZeros_0f7a4_58 rfl ?_
    refine zk_iconst hC dJ6_numberOfTrailingZeros_0f7a4_59 (v := nI 4) (by decide +kernel) ?_
    refine zn_iushr hC dJ6_numberOfTrailingZeros_0f7a4_60 (v := nI 7) (by decide +kernel) ?_
    refine zr_istore_n hC dJ6_numberOfTrailingZeros_0f7a4_61 (by decide) ?_
    refine zr_iload_n hC dJ6_numberOfTrailingZeros_0f7a4_62 rfl ?_
    refine zk_iconst hC dJ6_numberOfTrailingZeros_0f7a4_63 (v := nI 4) (by decide +kernel) ?_
    refine zr_icmp_le hC dJ6_numberOfTrailingZeros_0f7a4_64 (tgt := 74) (by decide) (fun c => absurd c (by decide +kernel)) (fun c_64 => ?_)
    refine zn_iinc hC dJ6_numberOfTrailingZeros_0f7a4_67 rfl (by decide) (v := nI 31) (by decide +kernel) ?_
    refine zr_iload_n hC dJ6_numberOfTrailingZeros_0f7a4_70 rfl ?_
    refine zk_iconst hC dJ6_numberOfTrailingZeros_0f7a4_71 (v := nI 2) (by decide +kernel) ?_
    refine zn_iushr hC dJ6_numberOfTrailingZeros_0f7a4_72 (v := nI 1) (by decide +kernel) ?_
    refine zr_istore_n hC dJ6_numberOfTrailingZeros_0f7a4_73 (by decide) ?_
    refine zr_iload_n hC dJ6_numberOfTrailingZeros_0f7a4_74 rfl ?_
    refine zr_iload_n hC dJ6_numberOfTrailingZeros_0f7a4_75 rfl ?_
    refine zk_iconst hC dJ6_numberOfTrailingZeros_0f7a4_76 (v := nI 1) (by decide +kernel) ?_
    refine zn_iushr hC dJ6_numberOfTrailingZeros_0f7a4_77 (v := nI 0) (by decide +kernel) ?_
    refine zn_iadd hC dJ6_numberOfTrailingZeros_0f7a4_78 (v := nI 31) (by decide +kernel) ?_
    exact zr_ireturn hC hE dJ6_numberOfTrailingZeros_0f7a4_79 (hr _ _ (hQ))
theorem zr_min {C : zCx} {τ : Nat → ClassId} {ι : Nat → Nat} {own : String} {cc : ByteArray} {nL kc ks pc d mc ms : Nat} {lv : List (Nat × Value)} {st : List Value} {w : List va_E} (hC : zOK C τ (zrm d mc ms) own cc nL) (hd : 1 ≤ d) {index : Nat} {x y v : Int32} (hdg : decode cc pc = .ok (.invokestatic index, 3)) (hlink : Cond.methodLink own index yJ9_min_7cf53 ∈ zT) (hkc : kc ≤ mc) (hks : ks ≤ ms) (hst : st = []) (hv : (if y < x then y else x) = v) (kk : zR C τ ι nL kc ks (pc + 3) lv (.int v :: st) w) : zR C τ ι nL kc ks pc lv (.int y :: .int x :: st) w := by
  obtain ⟨p, l, e, R', s, m, args, below, meth, c, D, A, H0, Q⟩ := C
  obtain ⟨hx, hb, hml, hown, hts, hK, hN, hR, hlk, hA⟩ := hC
  intro H locs ls hP hD hS hl
  subst hst hR hv
  obtain ⟨h1, h2, h3, -⟩ := mtJ9_min_7cf53
  have hcode : (Cond.code Lib.Math.min.name Lib.Math.min.code 2 (some .int)).before args s = true := by
    have := hts _ h1
    rwa [show cJ9_min_7cf53 = Lib.Math.min.code by decide +kernel] at this
  exact va_mmin (rest := []) hx hb (hml.trans hl.1.symm) hown (hts _ hlink) (hts _ h3) (hts _ h2) hcode (by show 1 ≤ d; exact hd) (by show 0 + 13 ≤ 37 * d; omega) hkc hks hdg (kk H locs ls hP hD hS hl)
set_option maxHeartbeats 4000000 in
theorem lJ7_fill_53178 {C : zCx} {τ : Nat → ClassId} {ι : Nat → Nat} (hC : zOK C τ (zrm 0 0 0) yJ7_fill_53178.cls cJ7_fill_53178 4) {a n : Nat} {x : Int32} (S : zS) (hz : zar a = some (0, n)) (hn : n ≤ 5000) (ha : a < 260) (k : ∀ lv, zR C τ ι 4 0 0 20 lv [] (zcells (zfill S a n x))) : ∀ d i, i + d = n → zR C τ ι 4 0 0 5 [(0, .ref a), (1, .int x), (2, .int (nI i)), (3, .int (nI n))] [] (zcells (zfill S a i x)) := by
  intro d
  induction d with
  | zero =>
    intro i hi
    have hi : i = n := by omega
    subst hi
    refine zr_iload_n hC dJ7_fill_53178_5 rfl ?_
    refine zr_iload_n hC dJ7_fill_53178_6 rfl ?_
    refine zr_icmp_ge hC dJ7_fill_53178_7 (tgt := 20) (by decide) (fun c_7 => ?_) (fun c => absurd c (by intro h; exact h (nI_le (Nat.le_refl _) (by omega))))
    exact k _
  | succ d ih =>
    intro i hi
    refine zr_iload_n hC dJ7_fill_53178_5 rfl ?_
    refine zr_iload_n hC dJ7_fill_53178_6 rfl ?_
    refine zr_icmp_ge hC dJ7_fill_53178_7 (tgt := 20) (by decide) (fun c => absurd c (nI_ge (by omega) (by omega))) (fun c_7 => ?_)
    refine zr_aload_n hC dJ7_fill_53178_10 rfl ?_
    refine zr_iload_n hC dJ7_fill_53178_11 rfl ?_
    refine zr_iload_n hC dJ7_fill_53178_12 rfl ?_
    refine zs_iast hC dJ7_fill_53178_13 hz hn ha (j := i) rfl (by omega) ?_
    rw [zfill_s]
    refine zn_iinc hC dJ7_fill_53178_14 rfl (by decide) (zk_inc _ 1) ?_
    refine zr_goto hC dJ7_fill_53178_17 (tgt := 5) (by decide) ?_
    exact zR_sub [(0, .ref a), (1, .int x), (2, .int (nI (i + 1))), (3, .int (nI n))] ⟨rfl, rfl, rfl, rfl, trivial⟩ (ih (i + 1) (by omega))
def spJ7_fill_53178 : zSp := fun av S Q => ∃ (a n : Nat) (x : Int32), av = [.ref a, .int x] ∧ zar a = some (0, n) ∧ n ≤ 5000 ∧ a < 260 ∧ Q none (zfill S a n x)
set_option maxHeartbeats 4000000 in
set_option maxRecDepth 100000 in
theorem tJ7_fill_53178 : zM yJ7_fill_53178 cJ7_fill_53178 4 none 0 spJ7_fill_53178 := by
  refine zM.of (by decide) (by decide) (fun av S Q h => by obtain ⟨a, n, x, rfl, hz, hn, ha, hQ⟩ := h; exact Nat.le_of_ble_eq_true rfl) (fun C τ ι av S Q Qr h hr hC hE => ?_)
  obtain ⟨a, n, x, rfl, hz, hn, ha, hQ⟩ := h
  show zR C τ ι _ 0 0 0 [(0, .ref a), (1, .int x)] [] _
  refine zk_iconst hC dJ7_fill_53178_0 (v := nI 0) (by decide +kernel) ?_
  refine zr_istore_n hC dJ7_fill_53178_1 (by decide) ?_
  refine zr_aload_n hC dJ7_fill_53178_2 rfl ?_
  refine zs_alen hC dJ7_fill_53178_3 hz (by decide) ha ?_
  refine zr_istore_n hC dJ7_fill_53178_4 (by decide) ?_
  refine zR_sub [(0, .ref a), (1, .int x), (2, .int (nI 0)), (3, .int (nI n))] ⟨rfl, rfl, rfl, rfl, trivial⟩ ?_
  have h0 := lJ7_fill_53178 hC (ι := ι) (x := x) S hz hn ha (fun lv => zr_vreturn hC hE dJ7_fill_53178_20 (hr _ _ hQ)) n 0 (by omega)
  rwa [zfill_0] at h0
set_option maxHeartbeats 4000000 in
theorem lJ7_fill_d0a16 {C : zCx} {τ : Nat → ClassId} {ι : Nat → Nat} (hC : zOK C τ (zrm 0 0 0) yJ7_fill_d0a16.cls cJ7_fill_d0a16 5) {a n : Nat} {x : Int64} (S : zS) (hz : zar a = some (1, n)) (hn : n ≤ 5000) (ha : a < 260) (k : ∀ lv, zR C τ ι 5 0 0 22 lv [] (zcells (zfillL S a n x))) : ∀ d i, i + d = n → zR C τ ι 5 0 0 6 [(0, .ref a), (1, .long x), (3, .int (nI i)), (4, .int (nI n))] [] (zcells (zfillL S a i x)) := by
  intro d
  induction d with
  | zero =>
    intro i hi
    have hi : i = n := by omega
    subst hi
    refine zr_iload_n hC dJ7_fill_d0a16_6 rfl ?_
    refine zr_iload hC dJ7_fill_d0a16_7 rfl ?_
    refine zr_icmp_ge hC dJ7_fill_d0a16_9 (tgt := 22) (by decide) (fun c_9 => ?_) (fun c => absurd c (by intro h; exact h (nI_le (Nat.le_refl _) (by omega))))
    exact k _
  | succ d ih =>
    intro i hi
    refine zr_iload_n hC dJ7_fill_d0a16_6 rfl ?_
    refine zr_iload hC dJ7_fill_d0a16_7 rfl ?_
    refine zr_icmp_ge hC dJ7_fill_d0a16_9 (tgt := 22) (by decide) (fun c => absurd c (nI_ge (by omega) (by omega))) (fun c_9 => ?_)
    refine zr_aload_n hC dJ7_fill_d0a16_12 rfl ?_
    refine zr_iload_n hC dJ7_fill_d0a16_13 rfl ?_
    refine zr_lload_n hC dJ7_fill_d0a16_14 rfl ?_
    refine zs_last hC dJ7_fill_d0a16_15 hz hn ha (j := i) rfl (by omega) ?_
    rw [zfillL_s]
    refine zn_iinc hC dJ7_fill_d0a16_16 rfl (by decide) (zk_inc _ 1) ?_
    refine zr_goto hC dJ7_fill_d0a16_19 (tgt := 6) (by decide) ?_
    exact zR_sub [(0, .ref a), (1, .long x), (3, .int (nI (i + 1))), (4, .int (nI n))] ⟨rfl, rfl, rfl, rfl, trivial⟩ (ih (i + 1) (by omega))
def spJ7_fill_d0a16 : zSp := fun av S Q => ∃ (a n : Nat) (x : Int64), av = [.ref a, .long x] ∧ zar a = some (1, n) ∧ n ≤ 5000 ∧ a < 260 ∧ Q none (zfillL S a n x)
set_option maxHeartbeats 4000000 in
set_option maxRecDepth 100000 in
theorem tJ7_fill_d0a16 : zM yJ7_fill_d0a16 cJ7_fill_d0a16 5 none 0 spJ7_fill_d0a16 := by
  refine zM.of (by decide) (by decide) (fun av S Q h => by obtain ⟨a, n, x, rfl, hz, hn, ha, hQ⟩ := h; exact Nat.le_of_ble_eq_true rfl) (fun C τ ι av S Q Qr h hr hC hE => ?_)
  obtain ⟨a, n, x, rfl, hz, hn, ha, hQ⟩ := h
  show zR C τ ι _ 0 0 0 [(0, .ref a), (1, .long x)] [] _
  refine zk_iconst hC dJ7_fill_d0a16_0 (v := nI 0) (by decide +kernel) ?_
  refine zr_istore_n hC dJ7_fill_d0a16_1 (by decide) ?_
  refine zr_aload_n hC dJ7_fill_d0a16_2 rfl ?_
  refine zs_alen hC dJ7_fill_d0a16_3 hz (by decide) ha ?_
  refine zr_istore hC dJ7_fill_d0a16_4 (by decide) ?_
  refine zR_sub [(0, .ref a), (1, .long x), (3, .int (nI 0)), (4, .int (nI n))] ⟨rfl, rfl, rfl, rfl, trivial⟩ ?_
  have h0 := lJ7_fill_d0a16 hC (ι := ι) (x := x) S hz hn ha (fun lv => zr_vreturn hC hE dJ7_fill_d0a16_22 (hr _ _ hQ)) n 0 (by omega)
  rwa [zfillL_0] at h0
end
section
/-- a truth as an int -/
def zb (b : Bool) : Int32 := if b then nI 1 else nI 0
theorem zb_01 (b : Bool) : zb b = 0 ∨ zb b = 1 := by cases b <;> simp [zb] <;> decide
theorem bt_1 (x : Int32) (b : Nat) (hb : b < 32) : (x.toUInt32 >>> ((nI b).toUInt32 &&& Int32.toUInt32 31)).toInt32 &&& nI 1 = zb (bt x b) := by
  apply b_ext
  intro i hi
  rw [b_and, b_ushr b hb]
  have h1 : ∀ i, i < 32 → bt (nI 1) i = decide (i = 0) := by decide +kernel
  have h0 : ∀ i, i < 32 → bt (nI 0) i = false := by decide +kernel
  rw [h1 i hi]
  by_cases hz : i = 0
  · subst hz
    cases h : bt x b <;> simp [zb, h, h1, h0]
  · cases h : bt x b <;> simp [zb, hz, h1 i hi, h0 i hi]
def spX8_bit : zSp := fun av S Q => ∃ (x : Int32) (b : Nat), av = [.int x, .int (nI b)] ∧ b < 32 ∧ ∀ r, (r = nI 1 ∧ bt x b = true) ∨ (r = nI 0 ∧ bt x b = false) → Q (some (.int r)) S
set_option maxHeartbeats 4000000 in
set_option maxRecDepth 100000 in
theorem tX8_bit : zM yX8_bit cX8_bit 2 (some .int) 0 spX8_bit := by
  refine zM.of (by decide) (by decide) (fun av S Q h => by obtain ⟨x, b, rfl, hb, hQ⟩ := h; exact Nat.le_of_ble_eq_true rfl) (fun C τ ι av S Q Qr h hr hC hE => ?_)
  obtain ⟨x, b, rfl, hb, hQ⟩ := h
  show zR C τ ι _ 0 0 0 [(0, .int x), (1, .int (nI b))] [] _
  refine zr_iload_n hC dX8_bit_0 rfl ?_
  refine zr_iload_n hC dX8_bit_1 rfl ?_
  refine zr_iushr hC dX8_bit_2 ?_
  refine zk_iconst hC dX8_bit_3 (v := nI 1) (by decide +kernel) ?_
  refine zr_iand hC dX8_bit_4 ?_
  exact zr_ireturn hC hE dX8_bit_5 (hr _ _ (by rw [bt_1 x b hb]; exact hQ _ (by cases h : bt x b <;> simp [zb])))
def spX8_has : zSp := fun av S Q => ∃ (x : Int32) (b : Nat), av = [.int x, .int (nI b)] ∧ b < 32 ∧ ∀ r, (r = nI 1 ∧ bt x b = true) ∨ (r = nI 0 ∧ bt x b = false) → Q (some (.int r)) S
set_option maxHeartbeats 4000000 in
set_option maxRecDepth 100000 in
theorem tX8_has : zM yX8_has cX8_has 2 (some .boolean) 1 spX8_has := by
  refine zM.of (by decide) (by decide) (fun av S Q h => by obtain ⟨x, b, rfl, hb, hQ⟩ := h; exact Nat.le_of_ble_eq_true rfl) (fun C τ ι av S Q Qr h hr hC hE => ?_)
  obtain ⟨x, b, rfl, hb, hQ⟩ := h
  show zR C τ ι _ 0 0 0 [(0, .int x), (1, .int (nI b))] [] _
  refine zr_iload_n hC dX8_has_0 rfl ?_
  refine zr_iload_n hC dX8_has_1 rfl ?_
  refine zs_callS hC [_, _] [] dX8_has_2 ml_X8_151 mtX8_bit tX8_bit (by decide) (by decide) (by decide) rfl (Nat.le_of_ble_eq_true rfl) rfl ?_
  refine ⟨x, b, rfl, hb, fun r e => ?_⟩
  rcases e with ⟨rfl, hx⟩ | ⟨rfl, hx⟩
  · dsimp only [Option.toList, List.cons_append, List.nil_append]
    refine zk_iconst hC dX8_has_5 (v := nI 1) (by decide +kernel) ?_
    refine zr_icmp_ne hC dX8_has_6 (tgt := 13) (by decide) (fun c => absurd c (by decide +kernel)) (fun c_6 => ?_)
    refine zk_iconst hC dX8_has_9 (v := nI 1) (by decide +kernel) ?_
    refine zr_goto hC dX8_has_10 (tgt := 14) (by decide) ?_
    exact zr_zreturn hC hE dX8_has_14 (by first | exact Or.inl rfl | exact Or.inr rfl) (hr _ _ (hQ _ (by first | exact Or.inl ⟨rfl, hx⟩ | exact Or.inr ⟨rfl, hx⟩)))
  · dsimp only [Option.toList, List.cons_append, List.nil_append]
    refine zk_iconst hC dX8_has_5 (v := nI 1) (by decide +kernel) ?_
    refine zr_icmp_ne hC dX8_has_6 (tgt := 13) (by decide) (fun c_6 => ?_) (fun c => absurd c (by decide +kernel))
    refine zk_iconst hC dX8_has_13 (v := nI 0) (by decide +kernel) ?_
    exact zr_zreturn hC hE dX8_has_14 (by first | exact Or.inl rfl | exact Or.inr rfl) (hr _ _ (hQ _ (by first | exact Or.inl ⟨rfl, hx⟩ | exact Or.inr ⟨rfl, hx⟩)))
def spX8_noMember : zSp := fun av S Q => ∃ (x : Int32), av = [.int x] ∧ ∀ r, (r = nI 1 ∧ (x < 0 ∨ nI 16 ≤ x)) ∨ (r = nI 0 ∧ ∃ j, j < 16 ∧ x = nI j) → Q (some (.int r)) S
set_option maxHeartbeats 4000000 in
set_option maxRecDepth 100000 in
theorem tX8_noMember : zM yX8_noMember cX8_noMember 1 (some .boolean) 0 spX8_noMember := by
  refine zM.of (by decide) (by decide) (fun av S Q h => by obtain ⟨x, rfl, hQ⟩ := h; exact Nat.le_of_ble_eq_true rfl) (fun C τ ι av S Q Qr h hr hC hE => ?_)
  obtain ⟨x, rfl, hQ⟩ := h
  show zR C τ ι _ 0 0 0 [(0, .int x)] [] _
  refine zr_iload_n hC dX8_noMember_0 rfl ?_
  refine zr_if_lt hC dX8_noMember_1 (tgt := 10) (by decide) (fun c_1 => ?_) (fun c_1 => ?_)
  · refine zk_iconst hC dX8_noMember_10 (v := nI 1) (by decide +kernel) ?_
    refine zr_goto hC dX8_noMember_11 (tgt := 15) (by decide) ?_
    exact zr_zreturn hC hE dX8_noMember_15 (by first | exact Or.inl rfl | exact Or.inr rfl) (hr _ _ (hQ _ (by first | exact Or.inl ⟨rfl, Or.inl (by assumption)⟩ | exact Or.inl ⟨rfl, Or.inr (Int32.not_lt.mp (by assumption))⟩ | exact Or.inr ⟨rfl, z_in (by assumption) (by assumption) (by decide)⟩)))
  · refine zr_iload_n hC dX8_noMember_4 rfl ?_
    refine zk_bipush hC dX8_noMember_5 (v := nI 16) (by decide +kernel) ?_
    refine zr_icmp_lt hC dX8_noMember_7 (tgt := 14) (by decide) (fun c_7 => ?_) (fun c_7 => ?_)
    · refine zk_iconst hC dX8_noMember_14 (v := nI 0) (by decide +kernel) ?_
      exact zr_zreturn hC hE dX8_noMember_15 (by first | exact Or.inl rfl | exact Or.inr rfl) (hr _ _ (hQ _ (by first | exact Or.inl ⟨rfl, Or.inl (by assumption)⟩ | exact Or.inl ⟨rfl, Or.inr (Int32.not_lt.mp (by assumption))⟩ | exact Or.inr ⟨rfl, z_in (by assumption) (by assumption) (by decide)⟩)))
    · refine zk_iconst hC dX8_noMember_10 (v := nI 1) (by decide +kernel) ?_
      refine zr_goto hC dX8_noMember_11 (tgt := 15) (by decide) ?_
      exact zr_zreturn hC hE dX8_noMember_15 (by first | exact Or.inl rfl | exact Or.inr rfl) (hr _ _ (hQ _ (by first | exact Or.inl ⟨rfl, Or.inl (by assumption)⟩ | exact Or.inl ⟨rfl, Or.inr (Int32.not_lt.mp (by assumption))⟩ | exact Or.inr ⟨rfl, z_in (by assumption) (by assumption) (by decide)⟩)))
def spX8_noSheet : zSp := fun av S Q => ∃ (x : Int32), av = [.int x] ∧ ∀ r, (r = nI 1 ∧ (x < 0 ∨ nI 4 ≤ x)) ∨ (r = nI 0 ∧ ∃ j, j < 4 ∧ x = nI j) → Q (some (.int r)) S
set_option maxHeartbeats 4000000 in
set_option maxRecDepth 100000 in
theorem tX8_noSheet : zM yX8_noSheet cX8_noSheet 1 (some .boolean) 0 spX8_noSheet := by
  refine zM.of (by decide) (by decide) (fun av S Q h => by obtain ⟨x, rfl, hQ⟩ := h; exact Nat.le_of_ble_eq_true rfl) (fun C τ ι av S Q Qr h hr hC hE => ?_)
  obtain ⟨x, rfl, hQ⟩ := h
  show zR C τ ι _ 0 0 0 [(0, .int x)] [] _
  refine zr_iload_n hC dX8_noSheet_0 rfl ?_
  refine zr_if_lt hC dX8_noSheet_1 (tgt := 9) (by decide) (fun c_1 => ?_) (fun c_1 => ?_)
  · refine zk_iconst hC dX8_noSheet_9 (v := nI 1) (by decide +kernel) ?_
    refine zr_goto hC dX8_noSheet_10 (tgt := 14) (by decide) ?_
    exact zr_zreturn hC hE dX8_noSheet_14 (by first | exact Or.inl rfl | exact Or.inr rfl) (hr _ _ (hQ _ (by first | exact Or.inl ⟨rfl, Or.inl (by assumption)⟩ | exact Or.inl ⟨rfl, Or.inr (Int32.not_lt.mp (by assumption))⟩ | exact Or.inr ⟨rfl, z_in (by assumption) (by assumption) (by decide)⟩)))
  · refine zr_iload_n hC dX8_noSheet_4 rfl ?_
    refine zk_iconst hC dX8_noSheet_5 (v := nI 4) (by decide +kernel) ?_
    refine zr_icmp_lt hC dX8_noSheet_6 (tgt := 13) (by decide) (fun c_6 => ?_) (fun c_6 => ?_)
    · refine zk_iconst hC dX8_noSheet_13 (v := nI 0) (by decide +kernel) ?_
      exact zr_zreturn hC hE dX8_noSheet_14 (by first | exact Or.inl rfl | exact Or.inr rfl) (hr _ _ (hQ _ (by first | exact Or.inl ⟨rfl, Or.inl (by assumption)⟩ | exact Or.inl ⟨rfl, Or.inr (Int32.not_lt.mp (by assumption))⟩ | exact Or.inr ⟨rfl, z_in (by assumption) (by assumption) (by decide)⟩)))
    · refine zk_iconst hC dX8_noSheet_9 (v := nI 1) (by decide +kernel) ?_
      refine zr_goto hC dX8_noSheet_10 (tgt := 14) (by decide) ?_
      exact zr_zreturn hC hE dX8_noSheet_14 (by first | exact Or.inl rfl | exact Or.inr rfl) (hr _ _ (hQ _ (by first | exact Or.inl ⟨rfl, Or.inl (by assumption)⟩ | exact Or.inl ⟨rfl, Or.inr (Int32.not_lt.mp (by assumption))⟩ | exact Or.inr ⟨rfl, z_in (by assumption) (by assumption) (by decide)⟩)))
def spX8_noLane : zSp := fun av S Q => ∃ (x : Int32), av = [.int x] ∧ ∀ r, (r = nI 1 ∧ (x < 0 ∨ nI 4 ≤ x)) ∨ (r = nI 0 ∧ ∃ j, j < 4 ∧ x = nI j) → Q (some (.int r)) S
set_option maxHeartbeats 4000000 in
set_option maxRecDepth 100000 in
theorem tX8_noLane : zM yX8_noLane cX8_noLane 1 (some .boolean) 0 spX8_noLane := by
  refine zM.of (by decide) (by decide) (fun av S Q h => by obtain ⟨x, rfl, hQ⟩ := h; exact Nat.le_of_ble_eq_true rfl) (fun C τ ι av S Q Qr h hr hC hE => ?_)
  obtain ⟨x, rfl, hQ⟩ := h
  show zR C τ ι _ 0 0 0 [(0, .int x)] [] _
  refine zr_iload_n hC dX8_noLane_0 rfl ?_
  refine zr_if_lt hC dX8_noLane_1 (tgt := 9) (by decide) (fun c_1 => ?_) (fun c_1 => ?_)
  · refine zk_iconst hC dX8_noLane_9 (v := nI 1) (by decide +kernel) ?_
    refine zr_goto hC dX8_noLane_10 (tgt := 14) (by decide) ?_
    exact zr_zreturn hC hE dX8_noLane_14 (by first | exact Or.inl rfl | exact Or.inr rfl) (hr _ _ (hQ _ (by first | exact Or.inl ⟨rfl, Or.inl (by assumption)⟩ | exact Or.inl ⟨rfl, Or.inr (Int32.not_lt.mp (by assumption))⟩ | exact Or.inr ⟨rfl, z_in (by assumption) (by assumption) (by decide)⟩)))
  · refine zr_iload_n hC dX8_noLane_4 rfl ?_
    refine zk_iconst hC dX8_noLane_5 (v := nI 4) (by decide +kernel) ?_
    refine zr_icmp_lt hC dX8_noLane_6 (tgt := 13) (by decide) (fun c_6 => ?_) (fun c_6 => ?_)
    · refine zk_iconst hC dX8_noLane_13 (v := nI 0) (by decide +kernel) ?_
      exact zr_zreturn hC hE dX8_noLane_14 (by first | exact Or.inl rfl | exact Or.inr rfl) (hr _ _ (hQ _ (by first | exact Or.inl ⟨rfl, Or.inl (by assumption)⟩ | exact Or.inl ⟨rfl, Or.inr (Int32.not_lt.mp (by assumption))⟩ | exact Or.inr ⟨rfl, z_in (by assumption) (by assumption) (by decide)⟩)))
    · refine zk_iconst hC dX8_noLane_9 (v := nI 1) (by decide +kernel) ?_
      refine zr_goto hC dX8_noLane_10 (tgt := 14) (by decide) ?_
      exact zr_zreturn hC hE dX8_noLane_14 (by first | exact Or.inl rfl | exact Or.inr rfl) (hr _ _ (hQ _ (by first | exact Or.inl ⟨rfl, Or.inl (by assumption)⟩ | exact Or.inl ⟨rfl, Or.inr (Int32.not_lt.mp (by assumption))⟩ | exact Or.inr ⟨rfl, z_in (by assumption) (by assumption) (by decide)⟩)))
/-- a place of a Seats object -/
abbrev zq (q : Nat) : Prop := q = 2 ∨ q = 232
def spX5_sits : zSp := fun av S Q => ∃ (q m : Nat), av = [.ref q, .int (nI m)] ∧ zq q ∧ m < 16 ∧ ∀ r, (r = nI 1 ∧ ¬ S.1 (q + 1) m = 0) ∨ (r = nI 0 ∧ S.1 (q + 1) m = 0) → Q (some (.int r)) S
set_option maxHeartbeats 4000000 in
set_option maxRecDepth 100000 in
theorem tX5_sits : zM yX5_sits cX5_sits 2 (some .boolean) 0 spX5_sits := by
  refine zM.of (by decide) (by decide) (fun av S Q h => by obtain ⟨q, m, rfl, hq, hm, hQ⟩ := h; exact Nat.le_of_ble_eq_true rfl) (fun C τ ι av S Q Qr h hr hC hE => ?_)
  obtain ⟨q, m, rfl, hq, hm, hQ⟩ := h
  rcases hq with rfl | rfl
  · show zR C τ ι _ 0 0 0 [(0, .ref 2), (1, .int (nI m))] [] _
    refine zr_aload_n hC dX5_sits_0 rfl ?_
    refine zs_getr hC dX5_sits_1 fl_X5_9 (a := 2) (r := 3) rfl (by decide) ?_
    refine zr_iload_n hC dX5_sits_4 rfl ?_
    refine zs_iald hC dX5_sits_5 (a := 3) (n := 16) rfl (by decide) (by decide) (j := _) rfl (by omega) ?_
    refine zr_if_eq hC dX5_sits_6 (tgt := 13) (by decide) (fun c_6 => ?_) (fun c_6 => ?_)
    · refine zk_iconst hC dX5_sits_13 (v := nI 0) (by decide +kernel) ?_
      exact zr_zreturn hC hE dX5_sits_14 (by first | exact Or.inl rfl | exact Or.inr rfl) (hr _ _ (hQ _ (by first | exact Or.inl ⟨rfl, by assumption⟩ | exact Or.inr ⟨rfl, by assumption⟩)))
    · refine zk_iconst hC dX5_sits_9 (v := nI 1) (by decide +kernel) ?_
      refine zr_goto hC dX5_sits_10 (tgt := 14) (by decide) ?_
      exact zr_zreturn hC hE dX5_sits_14 (by first | exact Or.inl rfl | exact Or.inr rfl) (hr _ _ (hQ _ (by first | exact Or.inl ⟨rfl, by assumption⟩ | exact Or.inr ⟨rfl, by assumption⟩)))
  · show zR C τ ι _ 0 0 0 [(0, .ref 232), (1, .int (nI m))] [] _
    refine zr_aload_n hC dX5_sits_0 rfl ?_
    refine zs_getr hC dX5_sits_1 fl_X5_9 (a := 232) (r := 233) rfl (by decide) ?_
    refine zr_iload_n hC dX5_sits_4 rfl ?_
    refine zs_iald hC dX5_sits_5 (a := 233) (n := 16) rfl (by decide) (by decide) (j := _) rfl (by omega) ?_
    refine zr_if_eq hC dX5_sits_6 (tgt := 13) (by decide) (fun c_6 => ?_) (fun c_6 => ?_)
    · refine zk_iconst hC dX5_sits_13 (v := nI 0) (by decide +kernel) ?_
      exact zr_zreturn hC hE dX5_sits_14 (by first | exact Or.inl rfl | exact Or.inr rfl) (hr _ _ (hQ _ (by first | exact Or.inl ⟨rfl, by assumption⟩ | exact Or.inr ⟨rfl, by assumption⟩)))
    · refine zk_iconst hC dX5_sits_9 (v := nI 1) (by decide +kernel) ?_
      refine zr_goto hC dX5_sits_10 (tgt := 14) (by decide) ?_
      exact zr_zreturn hC hE dX5_sits_14 (by first | exact Or.inl rfl | exact Or.inr rfl) (hr _ _ (hQ _ (by first | exact Or.inl ⟨rfl, by assumption⟩ | exact Or.inr ⟨rfl, by assumption⟩)))
def spX5_live : zSp := fun av S Q => ∃ (q m : Nat), av = [.ref q, .int (nI m)] ∧ zq q ∧ m < 32 ∧ ∀ r, (r = nI 1 ∧ ¬ S.1 (q + 2) m = 0) ∨ (r = nI 0 ∧ S.1 (q + 2) m = 0) → Q (some (.int r)) S
set_option maxHeartbeats 4000000 in
set_option maxRecDepth 100000 in
theorem tX5_live : zM yX5_live cX5_live 2 (some .boolean) 0 spX5_live := by
  refine zM.of (by decide) (by decide) (fun av S Q h => by obtain ⟨q, m, rfl, hq, hm, hQ⟩ := h; exact Nat.le_of_ble_eq_true rfl) (fun C τ ι av S Q Qr h hr hC hE => ?_)
  obtain ⟨q, m, rfl, hq, hm, hQ⟩ := h
  rcases hq with rfl | rfl
  · show zR C τ ι _ 0 0 0 [(0, .ref 2), (1, .int (nI m))] [] _
    refine zr_aload_n hC dX5_live_0 rfl ?_
    refine zs_getr hC dX5_live_1 fl_X5_15 (a := 2) (r := 4) rfl (by decide) ?_
    refine zr_iload_n hC dX5_live_4 rfl ?_
    refine zs_iald hC dX5_live_5 (a := 4) (n := 32) rfl (by decide) (by decide) (j := _) rfl (by omega) ?_
    refine zr_if_eq hC dX5_live_6 (tgt := 13) (by decide) (fun c_6 => ?_) (fun c_6 => ?_)
    · refine zk_iconst hC dX5_live_13 (v := nI 0) (by decide +kernel) ?_
      exact zr_zreturn hC hE dX5_live_14 (by first | exact Or.inl rfl | exact Or.inr rfl) (hr _ _ (hQ _ (by first | exact Or.inl ⟨rfl, by assumption⟩ | exact Or.inr ⟨rfl, by assumption⟩)))
    · refine zk_iconst hC dX5_live_9 (v := nI 1) (by decide +kernel) ?_
      refine zr_goto hC dX5_live_10 (tgt := 14) (by decide) ?_
      exact zr_zreturn hC hE dX5_live_14 (by first | exact Or.inl rfl | exact Or.inr rfl) (hr _ _ (hQ _ (by first | exact Or.inl ⟨rfl, by assumption⟩ | exact Or.inr ⟨rfl, by assumption⟩)))
  · show zR C τ ι _ 0 0 0 [(0, .ref 232), (1, .int (nI m))] [] _
    refine zr_aload_n hC dX5_live_0 rfl ?_
    refine zs_getr hC dX5_live_1 fl_X5_15 (a := 232) (r := 234) rfl (by decide) ?_
    refine zr_iload_n hC dX5_live_4 rfl ?_
    refine zs_iald hC dX5_live_5 (a := 234) (n := 32) rfl (by decide) (by decide) (j := _) rfl (by omega) ?_
    refine zr_if_eq hC dX5_live_6 (tgt := 13) (by decide) (fun c_6 => ?_) (fun c_6 => ?_)
    · refine zk_iconst hC dX5_live_13 (v := nI 0) (by decide +kernel) ?_
      exact zr_zreturn hC hE dX5_live_14 (by first | exact Or.inl rfl | exact Or.inr rfl) (hr _ _ (hQ _ (by first | exact Or.inl ⟨rfl, by assumption⟩ | exact Or.inr ⟨rfl, by assumption⟩)))
    · refine zk_iconst hC dX5_live_9 (v := nI 1) (by decide +kernel) ?_
      refine zr_goto hC dX5_live_10 (tgt := 14) (by decide) ?_
      exact zr_zreturn hC hE dX5_live_14 (by first | exact Or.inl rfl | exact Or.inr rfl) (hr _ _ (hQ _ (by first | exact Or.inl ⟨rfl, by assumption⟩ | exact Or.inr ⟨rfl, by assumption⟩)))
def spX5_all : zSp := fun av S Q => av = [.ref 2] ∧ Q (some (.int (S.1 4 1))) S
set_option maxHeartbeats 4000000 in
set_option maxRecDepth 100000 in
theorem tX5_all : zM yX5_all cX5_all 1 (some .int) 0 spX5_all := by
  refine zM.of (by decide) (by decide) (fun av S Q h => by obtain ⟨rfl, hQ⟩ := h; exact Nat.le_of_ble_eq_true rfl) (fun C τ ι av S Q Qr h hr hC hE => ?_)
  obtain ⟨rfl, hQ⟩ := h
  show zR C τ ι _ 0 0 0 [(0, .ref 2)] [] _
  refine zr_aload_n hC dX5_all_0 rfl ?_
  refine zs_getr hC dX5_all_1 fl_X5_15 (a := 2) (r := 4) rfl (by decide) ?_
  refine zk_iconst hC dX5_all_4 (v := nI 1) (by decide +kernel) ?_
  refine zs_iald hC dX5_all_5 (a := 4) (n := 32) rfl (by decide) (by decide) (j := _) rfl (by omega) ?_
  exact zr_ireturn hC hE dX5_all_6 (hr _ _ (hQ))
end
