section
-- ===== PART A: goes FIRST, ahead of the names: the tables' words, and 'selects' of the private methods out of them =====
/-- a private method of a class that the tables say can be made, by its rows of tables_1 -/
def lw_okq (q : MethodName × Nat) : Prop := (q.1.cls ≠ "java/lang/invoke/MethodHandle" ∧ q.1.cls ≠ "java/lang/invoke/VarHandle") ∧ Cond.instantiable q.1.cls q.2 ∈ tables_1 ∧ Cond.privateMethod q.1 ∈ tables_1 ∧ Cond.instanceMethod q.1 ∈ tables_1
theorem lw_p0 : lw_okq (⟨"RigidRanks", "isPair", "(II)Z"⟩, 3) := ⟨⟨by decide +kernel, by decide +kernel⟩, List.mem_of_getElem? (i := 14) (by decide +kernel), List.mem_of_getElem? (i := 111) (by decide +kernel), List.mem_of_getElem? (i := 112) (by decide +kernel)⟩
theorem lw_p1 : lw_okq (⟨"RigidRanks", "matroidOf", "(I)LRigidRanks$Matroid;"⟩, 3) := ⟨⟨by decide +kernel, by decide +kernel⟩, List.mem_of_getElem? (i := 14) (by decide +kernel), List.mem_of_getElem? (i := 169) (by decide +kernel), List.mem_of_getElem? (i := 170) (by decide +kernel)⟩
theorem lw_p2 : lw_okq (⟨"RigidRanks", "makeMatroid", "(I)LRigidRanks$Matroid;"⟩, 3) := ⟨⟨by decide +kernel, by decide +kernel⟩, List.mem_of_getElem? (i := 14) (by decide +kernel), List.mem_of_getElem? (i := 173) (by decide +kernel), List.mem_of_getElem? (i := 174) (by decide +kernel)⟩
theorem lw_p3 : lw_okq (⟨"RigidRanks$Placed", "writeRow", "(LRigidRanks$Sheet;III)V"⟩, 11) := ⟨⟨by decide +kernel, by decide +kernel⟩, List.mem_of_getElem? (i := 177) (by decide +kernel), List.mem_of_getElem? (i := 296) (by decide +kernel), List.mem_of_getElem? (i := 297) (by decide +kernel)⟩
theorem lw_p4 : lw_okq (⟨"RigidRanks$Placed", "noteStress", "(III)V"⟩, 11) := ⟨⟨by decide +kernel, by decide +kernel⟩, List.mem_of_getElem? (i := 177) (by decide +kernel), List.mem_of_getElem? (i := 332) (by decide +kernel), List.mem_of_getElem? (i := 333) (by decide +kernel)⟩
theorem lw_p5 : lw_okq (⟨"RigidRanks$Anywhere", "linkAll", "(I)V"⟩, 8) := ⟨⟨by decide +kernel, by decide +kernel⟩, List.mem_of_getElem? (i := 249) (by decide +kernel), List.mem_of_getElem? (i := 405) (by decide +kernel), List.mem_of_getElem? (i := 406) (by decide +kernel)⟩
theorem lw_p6 : lw_okq (⟨"RigidRanks$Placed", "spanPairs", "(I)V"⟩, 11) := ⟨⟨by decide +kernel, by decide +kernel⟩, List.mem_of_getElem? (i := 177) (by decide +kernel), List.mem_of_getElem? (i := 413) (by decide +kernel), List.mem_of_getElem? (i := 414) (by decide +kernel)⟩
theorem lw_p7 : lw_okq (⟨"RigidRanks$Placed", "takeOut", "(I)Z"⟩, 11) := ⟨⟨by decide +kernel, by decide +kernel⟩, List.mem_of_getElem? (i := 177) (by decide +kernel), List.mem_of_getElem? (i := 420) (by decide +kernel), List.mem_of_getElem? (i := 421) (by decide +kernel)⟩
theorem lw_p8 : lw_okq (⟨"RigidRanks$Placed", "howManyPairs", "()I"⟩, 11) := ⟨⟨by decide +kernel, by decide +kernel⟩, List.mem_of_getElem? (i := 177) (by decide +kernel), List.mem_of_getElem? (i := 424) (by decide +kernel), List.mem_of_getElem? (i := 425) (by decide +kernel)⟩
theorem lw_p9 : lw_okq (⟨"RigidRanks", "lineUp", "(II)Z"⟩, 3) := ⟨⟨by decide +kernel, by decide +kernel⟩, List.mem_of_getElem? (i := 14) (by decide +kernel), List.mem_of_getElem? (i := 595) (by decide +kernel), List.mem_of_getElem? (i := 596) (by decide +kernel)⟩
theorem lw_p10 : lw_okq (⟨"RigidRanks", "staysTogether", "()Z"⟩, 3) := ⟨⟨by decide +kernel, by decide +kernel⟩, List.mem_of_getElem? (i := 14) (by decide +kernel), List.mem_of_getElem? (i := 606) (by decide +kernel), List.mem_of_getElem? (i := 607) (by decide +kernel)⟩
theorem lw_p11 : lw_okq (⟨"RigidRanksModel", "change", "()V"⟩, 24) := ⟨⟨by decide +kernel, by decide +kernel⟩, List.mem_of_getElem? (i := 615) (by decide +kernel), List.mem_of_getElem? (i := 621) (by decide +kernel), List.mem_of_getElem? (i := 622) (by decide +kernel)⟩
theorem lw_p12 : lw_okq (⟨"RigidRanksModel", "isJoint", "(I)Z"⟩, 24) := ⟨⟨by decide +kernel, by decide +kernel⟩, List.mem_of_getElem? (i := 615) (by decide +kernel), List.mem_of_getElem? (i := 710) (by decide +kernel), List.mem_of_getElem? (i := 711) (by decide +kernel)⟩
theorem lw_p13 : lw_okq (⟨"RigidRanksModel", "isSort", "(I)Z"⟩, 24) := ⟨⟨by decide +kernel, by decide +kernel⟩, List.mem_of_getElem? (i := 615) (by decide +kernel), List.mem_of_getElem? (i := 745) (by decide +kernel), List.mem_of_getElem? (i := 746) (by decide +kernel)⟩
theorem lw_p14 : lw_okq (⟨"RigidRanksModel", "isSet", "(I)Z"⟩, 24) := ⟨⟨by decide +kernel, by decide +kernel⟩, List.mem_of_getElem? (i := 615) (by decide +kernel), List.mem_of_getElem? (i := 749) (by decide +kernel), List.mem_of_getElem? (i := 750) (by decide +kernel)⟩
theorem lw_p15 : lw_okq (⟨"RigidRanksModel", "all", "()I"⟩, 24) := ⟨⟨by decide +kernel, by decide +kernel⟩, List.mem_of_getElem? (i := 615) (by decide +kernel), List.mem_of_getElem? (i := 753) (by decide +kernel), List.mem_of_getElem? (i := 754) (by decide +kernel)⟩
def lw_privs_1 : List (MethodName × Nat) := [(⟨"RigidRanks", "isPair", "(II)Z"⟩, 3), (⟨"RigidRanks", "matroidOf", "(I)LRigidRanks$Matroid;"⟩, 3), (⟨"RigidRanks", "makeMatroid", "(I)LRigidRanks$Matroid;"⟩, 3), (⟨"RigidRanks$Placed", "writeRow", "(LRigidRanks$Sheet;III)V"⟩, 11), (⟨"RigidRanks$Placed", "noteStress", "(III)V"⟩, 11), (⟨"RigidRanks$Anywhere", "linkAll", "(I)V"⟩, 8), (⟨"RigidRanks$Placed", "spanPairs", "(I)V"⟩, 11), (⟨"RigidRanks$Placed", "takeOut", "(I)Z"⟩, 11), (⟨"RigidRanks$Placed", "howManyPairs", "()I"⟩, 11), (⟨"RigidRanks", "lineUp", "(II)Z"⟩, 3), (⟨"RigidRanks", "staysTogether", "()Z"⟩, 3), (⟨"RigidRanksModel", "change", "()V"⟩, 24), (⟨"RigidRanksModel", "isJoint", "(I)Z"⟩, 24), (⟨"RigidRanksModel", "isSort", "(I)Z"⟩, 24), (⟨"RigidRanksModel", "isSet", "(I)Z"⟩, 24), (⟨"RigidRanksModel", "all", "()I"⟩, 24)]
theorem lw_r1 : ∀ q ∈ lw_privs_1, lw_okq q := List.forall_mem_cons.mpr ⟨lw_p0, List.forall_mem_cons.mpr ⟨lw_p1, List.forall_mem_cons.mpr ⟨lw_p2, List.forall_mem_cons.mpr ⟨lw_p3, List.forall_mem_cons.mpr ⟨lw_p4, List.forall_mem_cons.mpr ⟨lw_p5, List.forall_mem_cons.mpr ⟨lw_p6, List.forall_mem_cons.mpr ⟨lw_p7, List.forall_mem_cons.mpr ⟨lw_p8, List.forall_mem_cons.mpr ⟨lw_p9, List.forall_mem_cons.mpr ⟨lw_p10, List.forall_mem_cons.mpr ⟨lw_p11, List.forall_mem_cons.mpr ⟨lw_p12, List.forall_mem_cons.mpr ⟨lw_p13, List.forall_mem_cons.mpr ⟨lw_p14, List.forall_mem_cons.mpr ⟨lw_p15, fun _ h => absurd h List.not_mem_nil⟩⟩⟩⟩⟩⟩⟩⟩⟩⟩⟩⟩⟩⟩⟩⟩
theorem lw_p16 : lw_okq (⟨"RigidRanksModel", "rankOf", "(II)I"⟩, 24) := ⟨⟨by decide +kernel, by decide +kernel⟩, List.mem_of_getElem? (i := 615) (by decide +kernel), List.mem_of_getElem? (i := 757) (by decide +kernel), List.mem_of_getElem? (i := 758) (by decide +kernel)⟩
theorem lw_p17 : lw_okq (⟨"RigidRanksModel", "prepare", "(I)V"⟩, 24) := ⟨⟨by decide +kernel, by decide +kernel⟩, List.mem_of_getElem? (i := 615) (by decide +kernel), List.mem_of_getElem? (i := 761) (by decide +kernel), List.mem_of_getElem? (i := 762) (by decide +kernel)⟩
theorem lw_p18 : lw_okq (⟨"RigidRanksModel", "exactRank", "(II)I"⟩, 24) := ⟨⟨by decide +kernel, by decide +kernel⟩, List.mem_of_getElem? (i := 615) (by decide +kernel), List.mem_of_getElem? (i := 765) (by decide +kernel), List.mem_of_getElem? (i := 766) (by decide +kernel)⟩
theorem lw_p19 : lw_okq (⟨"RigidRanksModel", "putSet", "(II)V"⟩, 24) := ⟨⟨by decide +kernel, by decide +kernel⟩, List.mem_of_getElem? (i := 615) (by decide +kernel), List.mem_of_getElem? (i := 769) (by decide +kernel), List.mem_of_getElem? (i := 770) (by decide +kernel)⟩
theorem lw_p20 : lw_okq (⟨"RigidRanksModel", "putRow", "(III)V"⟩, 24) := ⟨⟨by decide +kernel, by decide +kernel⟩, List.mem_of_getElem? (i := 615) (by decide +kernel), List.mem_of_getElem? (i := 773) (by decide +kernel), List.mem_of_getElem? (i := 774) (by decide +kernel)⟩
theorem lw_p21 : lw_okq (⟨"RigidRanksModel", "rankOfRows", "()I"⟩, 24) := ⟨⟨by decide +kernel, by decide +kernel⟩, List.mem_of_getElem? (i := 615) (by decide +kernel), List.mem_of_getElem? (i := 777) (by decide +kernel), List.mem_of_getElem? (i := 778) (by decide +kernel)⟩
theorem lw_p22 : lw_okq (⟨"RigidRanksModel", "rankBy", "(J)I"⟩, 24) := ⟨⟨by decide +kernel, by decide +kernel⟩, List.mem_of_getElem? (i := 615) (by decide +kernel), List.mem_of_getElem? (i := 782) (by decide +kernel), List.mem_of_getElem? (i := 783) (by decide +kernel)⟩
theorem lw_p23 : lw_okq (⟨"RigidRanksModel", "swapRows", "(II)V"⟩, 24) := ⟨⟨by decide +kernel, by decide +kernel⟩, List.mem_of_getElem? (i := 615) (by decide +kernel), List.mem_of_getElem? (i := 789) (by decide +kernel), List.mem_of_getElem? (i := 790) (by decide +kernel)⟩
theorem lw_p24 : lw_okq (⟨"RigidRanksModel", "clearBelow", "(IIJ)V"⟩, 24) := ⟨⟨by decide +kernel, by decide +kernel⟩, List.mem_of_getElem? (i := 615) (by decide +kernel), List.mem_of_getElem? (i := 793) (by decide +kernel), List.mem_of_getElem? (i := 794) (by decide +kernel)⟩
theorem lw_p25 : lw_okq (⟨"RigidRanksModel", "countedRank", "(I)I"⟩, 24) := ⟨⟨by decide +kernel, by decide +kernel⟩, List.mem_of_getElem? (i := 615) (by decide +kernel), List.mem_of_getElem? (i := 802) (by decide +kernel), List.mem_of_getElem? (i := 803) (by decide +kernel)⟩
theorem lw_p26 : lw_okq (⟨"RigidRanksModel", "putPair", "(II)V"⟩, 24) := ⟨⟨by decide +kernel, by decide +kernel⟩, List.mem_of_getElem? (i := 615) (by decide +kernel), List.mem_of_getElem? (i := 806) (by decide +kernel), List.mem_of_getElem? (i := 807) (by decide +kernel)⟩
theorem lw_p27 : lw_okq (⟨"RigidRanksModel", "isFree", "()Z"⟩, 24) := ⟨⟨by decide +kernel, by decide +kernel⟩, List.mem_of_getElem? (i := 615) (by decide +kernel), List.mem_of_getElem? (i := 810) (by decide +kernel), List.mem_of_getElem? (i := 811) (by decide +kernel)⟩
theorem lw_p28 : lw_okq (⟨"RigidRanksModel", "closureOf", "(II)I"⟩, 24) := ⟨⟨by decide +kernel, by decide +kernel⟩, List.mem_of_getElem? (i := 615) (by decide +kernel), List.mem_of_getElem? (i := 821) (by decide +kernel), List.mem_of_getElem? (i := 822) (by decide +kernel)⟩
theorem lw_p29 : lw_okq (⟨"RigidRanksModel", "isImplied", "(IIII)Z"⟩, 24) := ⟨⟨by decide +kernel, by decide +kernel⟩, List.mem_of_getElem? (i := 615) (by decide +kernel), List.mem_of_getElem? (i := 829) (by decide +kernel), List.mem_of_getElem? (i := 830) (by decide +kernel)⟩
theorem lw_p30 : lw_okq (⟨"RigidRanksModel", "tryPair", "(II)Z"⟩, 24) := ⟨⟨by decide +kernel, by decide +kernel⟩, List.mem_of_getElem? (i := 615) (by decide +kernel), List.mem_of_getElem? (i := 833) (by decide +kernel), List.mem_of_getElem? (i := 834) (by decide +kernel)⟩
theorem lw_p31 : lw_okq (⟨"RigidRanksModel", "isRigid", "(I)Z"⟩, 24) := ⟨⟨by decide +kernel, by decide +kernel⟩, List.mem_of_getElem? (i := 615) (by decide +kernel), List.mem_of_getElem? (i := 841) (by decide +kernel), List.mem_of_getElem? (i := 842) (by decide +kernel)⟩
def lw_privs_2 : List (MethodName × Nat) := [(⟨"RigidRanksModel", "rankOf", "(II)I"⟩, 24), (⟨"RigidRanksModel", "prepare", "(I)V"⟩, 24), (⟨"RigidRanksModel", "exactRank", "(II)I"⟩, 24), (⟨"RigidRanksModel", "putSet", "(II)V"⟩, 24), (⟨"RigidRanksModel", "putRow", "(III)V"⟩, 24), (⟨"RigidRanksModel", "rankOfRows", "()I"⟩, 24), (⟨"RigidRanksModel", "rankBy", "(J)I"⟩, 24), (⟨"RigidRanksModel", "swapRows", "(II)V"⟩, 24), (⟨"RigidRanksModel", "clearBelow", "(IIJ)V"⟩, 24), (⟨"RigidRanksModel", "countedRank", "(I)I"⟩, 24), (⟨"RigidRanksModel", "putPair", "(II)V"⟩, 24), (⟨"RigidRanksModel", "isFree", "()Z"⟩, 24), (⟨"RigidRanksModel", "closureOf", "(II)I"⟩, 24), (⟨"RigidRanksModel", "isImplied", "(IIII)Z"⟩, 24), (⟨"RigidRanksModel", "tryPair", "(II)Z"⟩, 24), (⟨"RigidRanksModel", "isRigid", "(I)Z"⟩, 24)]
theorem lw_r2 : ∀ q ∈ lw_privs_2, lw_okq q := List.forall_mem_cons.mpr ⟨lw_p16, List.forall_mem_cons.mpr ⟨lw_p17, List.forall_mem_cons.mpr ⟨lw_p18, List.forall_mem_cons.mpr ⟨lw_p19, List.forall_mem_cons.mpr ⟨lw_p20, List.forall_mem_cons.mpr ⟨lw_p21, List.forall_mem_cons.mpr ⟨lw_p22, List.forall_mem_cons.mpr ⟨lw_p23, List.forall_mem_cons.mpr ⟨lw_p24, List.forall_mem_cons.mpr ⟨lw_p25, List.forall_mem_cons.mpr ⟨lw_p26, List.forall_mem_cons.mpr ⟨lw_p27, List.forall_mem_cons.mpr ⟨lw_p28, List.forall_mem_cons.mpr ⟨lw_p29, List.forall_mem_cons.mpr ⟨lw_p30, List.forall_mem_cons.mpr ⟨lw_p31, fun _ h => absurd h List.not_mem_nil⟩⟩⟩⟩⟩⟩⟩⟩⟩⟩⟩⟩⟩⟩⟩⟩
theorem lw_p32 : lw_okq (⟨"RigidRanksModel", "addPairs", "(III)I"⟩, 24) := ⟨⟨by decide +kernel, by decide +kernel⟩, List.mem_of_getElem? (i := 615) (by decide +kernel), List.mem_of_getElem? (i := 849) (by decide +kernel), List.mem_of_getElem? (i := 850) (by decide +kernel)⟩
theorem lw_p33 : lw_okq (⟨"RigidRanksModel", "spareOf", "(I)I"⟩, 24) := ⟨⟨by decide +kernel, by decide +kernel⟩, List.mem_of_getElem? (i := 615) (by decide +kernel), List.mem_of_getElem? (i := 857) (by decide +kernel), List.mem_of_getElem? (i := 858) (by decide +kernel)⟩
theorem lw_p34 : lw_okq (⟨"RigidRanksModel", "part", "(II)I"⟩, 24) := ⟨⟨by decide +kernel, by decide +kernel⟩, List.mem_of_getElem? (i := 615) (by decide +kernel), List.mem_of_getElem? (i := 865) (by decide +kernel), List.mem_of_getElem? (i := 866) (by decide +kernel)⟩
theorem lw_p35 : lw_okq (⟨"RigidRanksModel", "findParts", "(I)V"⟩, 24) := ⟨⟨by decide +kernel, by decide +kernel⟩, List.mem_of_getElem? (i := 615) (by decide +kernel), List.mem_of_getElem? (i := 869) (by decide +kernel), List.mem_of_getElem? (i := 870) (by decide +kernel)⟩
theorem lw_p36 : lw_okq (⟨"RigidRanksModel", "isCircuit", "(II)Z"⟩, 24) := ⟨⟨by decide +kernel, by decide +kernel⟩, List.mem_of_getElem? (i := 615) (by decide +kernel), List.mem_of_getElem? (i := 873) (by decide +kernel), List.mem_of_getElem? (i := 874) (by decide +kernel)⟩
theorem lw_p37 : lw_okq (⟨"RigidRanksModel", "isKind", "(III)Z"⟩, 24) := ⟨⟨by decide +kernel, by decide +kernel⟩, List.mem_of_getElem? (i := 615) (by decide +kernel), List.mem_of_getElem? (i := 877) (by decide +kernel), List.mem_of_getElem? (i := 878) (by decide +kernel)⟩
theorem lw_p38 : lw_okq (⟨"RigidRanksModel", "isLeastMeeting", "(II)Z"⟩, 24) := ⟨⟨by decide +kernel, by decide +kernel⟩, List.mem_of_getElem? (i := 615) (by decide +kernel), List.mem_of_getElem? (i := 881) (by decide +kernel), List.mem_of_getElem? (i := 882) (by decide +kernel)⟩
theorem lw_p39 : lw_okq (⟨"RigidRanksModel", "isMeeting", "(II)Z"⟩, 24) := ⟨⟨by decide +kernel, by decide +kernel⟩, List.mem_of_getElem? (i := 615) (by decide +kernel), List.mem_of_getElem? (i := 885) (by decide +kernel), List.mem_of_getElem? (i := 886) (by decide +kernel)⟩
theorem lw_p40 : lw_okq (⟨"RigidRanksModel", "isWhole", "(I)Z"⟩, 24) := ⟨⟨by decide +kernel, by decide +kernel⟩, List.mem_of_getElem? (i := 615) (by decide +kernel), List.mem_of_getElem? (i := 907) (by decide +kernel), List.mem_of_getElem? (i := 908) (by decide +kernel)⟩
theorem lw_p41 : lw_okq (⟨"RigidRanksModel", "findStress", "(II)V"⟩, 24) := ⟨⟨by decide +kernel, by decide +kernel⟩, List.mem_of_getElem? (i := 615) (by decide +kernel), List.mem_of_getElem? (i := 915) (by decide +kernel), List.mem_of_getElem? (i := 916) (by decide +kernel)⟩
theorem lw_p42 : lw_okq (⟨"RigidRanksModel", "minorBy", "(IIIJ)J"⟩, 24) := ⟨⟨by decide +kernel, by decide +kernel⟩, List.mem_of_getElem? (i := 615) (by decide +kernel), List.mem_of_getElem? (i := 919) (by decide +kernel), List.mem_of_getElem? (i := 920) (by decide +kernel)⟩
theorem lw_p43 : lw_okq (⟨"RigidRanksModel", "helped", "(I)I"⟩, 24) := ⟨⟨by decide +kernel, by decide +kernel⟩, List.mem_of_getElem? (i := 615) (by decide +kernel), List.mem_of_getElem? (i := 932) (by decide +kernel), List.mem_of_getElem? (i := 933) (by decide +kernel)⟩
theorem lw_p44 : lw_okq (⟨"RigidRanksModel", "isBuilt", "()Z"⟩, 24) := ⟨⟨by decide +kernel, by decide +kernel⟩, List.mem_of_getElem? (i := 615) (by decide +kernel), List.mem_of_getElem? (i := 940) (by decide +kernel), List.mem_of_getElem? (i := 941) (by decide +kernel)⟩
theorem lw_p45 : lw_okq (⟨"RigidRanksModel", "barsBetween", "(II)I"⟩, 24) := ⟨⟨by decide +kernel, by decide +kernel⟩, List.mem_of_getElem? (i := 615) (by decide +kernel), List.mem_of_getElem? (i := 944) (by decide +kernel), List.mem_of_getElem? (i := 945) (by decide +kernel)⟩
theorem lw_p46 : lw_okq (⟨"RigidRanksModel", "nextOrder", "()Z"⟩, 24) := ⟨⟨by decide +kernel, by decide +kernel⟩, List.mem_of_getElem? (i := 615) (by decide +kernel), List.mem_of_getElem? (i := 948) (by decide +kernel), List.mem_of_getElem? (i := 949) (by decide +kernel)⟩
theorem lw_p47 : lw_okq (⟨"RigidRanksModel", "hangs", "(I)Z"⟩, 24) := ⟨⟨by decide +kernel, by decide +kernel⟩, List.mem_of_getElem? (i := 615) (by decide +kernel), List.mem_of_getElem? (i := 956) (by decide +kernel), List.mem_of_getElem? (i := 957) (by decide +kernel)⟩
def lw_privs_3 : List (MethodName × Nat) := [(⟨"RigidRanksModel", "addPairs", "(III)I"⟩, 24), (⟨"RigidRanksModel", "spareOf", "(I)I"⟩, 24), (⟨"RigidRanksModel", "part", "(II)I"⟩, 24), (⟨"RigidRanksModel", "findParts", "(I)V"⟩, 24), (⟨"RigidRanksModel", "isCircuit", "(II)Z"⟩, 24), (⟨"RigidRanksModel", "isKind", "(III)Z"⟩, 24), (⟨"RigidRanksModel", "isLeastMeeting", "(II)Z"⟩, 24), (⟨"RigidRanksModel", "isMeeting", "(II)Z"⟩, 24), (⟨"RigidRanksModel", "isWhole", "(I)Z"⟩, 24), (⟨"RigidRanksModel", "findStress", "(II)V"⟩, 24), (⟨"RigidRanksModel", "minorBy", "(IIIJ)J"⟩, 24), (⟨"RigidRanksModel", "helped", "(I)I"⟩, 24), (⟨"RigidRanksModel", "isBuilt", "()Z"⟩, 24), (⟨"RigidRanksModel", "barsBetween", "(II)I"⟩, 24), (⟨"RigidRanksModel", "nextOrder", "()Z"⟩, 24), (⟨"RigidRanksModel", "hangs", "(I)Z"⟩, 24)]
theorem lw_r3 : ∀ q ∈ lw_privs_3, lw_okq q := List.forall_mem_cons.mpr ⟨lw_p32, List.forall_mem_cons.mpr ⟨lw_p33, List.forall_mem_cons.mpr ⟨lw_p34, List.forall_mem_cons.mpr ⟨lw_p35, List.forall_mem_cons.mpr ⟨lw_p36, List.forall_mem_cons.mpr ⟨lw_p37, List.forall_mem_cons.mpr ⟨lw_p38, List.forall_mem_cons.mpr ⟨lw_p39, List.forall_mem_cons.mpr ⟨lw_p40, List.forall_mem_cons.mpr ⟨lw_p41, List.forall_mem_cons.mpr ⟨lw_p42, List.forall_mem_cons.mpr ⟨lw_p43, List.forall_mem_cons.mpr ⟨lw_p44, List.forall_mem_cons.mpr ⟨lw_p45, List.forall_mem_cons.mpr ⟨lw_p46, List.forall_mem_cons.mpr ⟨lw_p47, fun _ h => absurd h List.not_mem_nil⟩⟩⟩⟩⟩⟩⟩⟩⟩⟩⟩⟩⟩⟩⟩⟩
def lw_privs : List (MethodName × Nat) := lw_privs_1 ++ (lw_privs_2 ++ (lw_privs_3))
def lw_tbl : List Cond := k2_sels lw_privs ++ tables_1
theorem lw_privs_ok : ∀ q ∈ lw_privs, lw_okq q := by
  show ∀ q ∈ lw_privs_1 ++ (lw_privs_2 ++ (lw_privs_3)), lw_okq q
  exact List.forall_mem_append.mpr ⟨lw_r1, List.forall_mem_append.mpr ⟨lw_r2, lw_r3⟩⟩
end
section
def RX0 : String := "RigidRanks$Anywhere"
def TX0 : u_T := fun k => match k with
  | 0 => ("RigidRanks$Matroid", "frame", "LRigidRanks$Frame;", true)
  | 1 => ("RigidRanks$Matroid", "basis", "[I", true)
  | 2 => ("RigidRanks$Matroid", "linked", "[I", true)
  | 3 => ("RigidRanks$Matroid", "parts", "[I", true)
  | 4 => ("RigidRanks$Matroid", "tally", "[I", true)
  | 5 => ("RigidRanks$Matroid", "seen", "I", false)
  | 6 => ("RigidRanks$Anywhere", "inside", "[I", true)
  | _ => ("RigidRanks$Anywhere", "room", "[I", true)
def tyX0 : Nat → FieldType := fun k => match k with
  | 0 => .object "RigidRanks$Frame"
  | 1 => .array .int
  | 2 => .array .int
  | 3 => .array .int
  | 4 => .array .int
  | 5 => .int
  | 6 => .array .int
  | _ => .array .int
abbrev wsX00 : List Cond := u_ws RX0 TX0 8
theorem nmX0 : ∀ a, a < 8 → ∀ b, b < 8 → a ≠ b → (TX0 a).2.1 ≠ (TX0 b).2.1 := by decide +kernel
theorem tyX0_ok : ∀ k, k < 8 → parseFieldDescriptor (TX0 k).2.2.1 = some (tyX0 k) := by decide +kernel
abbrev cX0_init : ByteArray := prog_2_method_1_code
def yX0_init : MethodName := ⟨RX0, "<init>", "(LRigidRanks$Frame;)V"⟩
abbrev cX0_mostInside : ByteArray := prog_2_method_2_code
def yX0_mostInside : MethodName := ⟨RX0, "mostInside", "(I)I"⟩
abbrev cX0_prepare : ByteArray := prog_2_method_3_code
def yX0_prepare : MethodName := ⟨RX0, "prepare", "()V"⟩
abbrev cX0_raises : ByteArray := prog_2_method_4_code
def yX0_raises : MethodName := ⟨RX0, "raises", "(III)Z"⟩
abbrev cX0_link : ByteArray := prog_2_method_5_code
def yX0_link : MethodName := ⟨RX0, "link", "(I)V"⟩
abbrev cX0_linkAll : ByteArray := prog_2_method_6_code
def yX0_linkAll : MethodName := ⟨RX0, "linkAll", "(I)V"⟩
abbrev cX0_lacking : ByteArray := prog_2_method_7_code
def yX0_lacking : MethodName := ⟨RX0, "lacking", "()I"⟩
def RX1 : String := "RigidRanks$Frame"
def TX1 : u_T := fun k => match k with
  | 0 => ("RigidRanks$Frame", "places", "[I", true)
  | 1 => ("RigidRanks$Frame", "low", "[I", true)
  | 2 => ("RigidRanks$Frame", "high", "[I", true)
  | 3 => ("RigidRanks$Frame", "signs", "[I", true)
  | 4 => ("RigidRanks$Frame", "joints", "I", false)
  | 5 => ("RigidRanks$Frame", "bars", "I", false)
  | _ => ("RigidRanks$Frame", "version", "I", false)
def tyX1 : Nat → FieldType := fun k => match k with
  | 0 => .array .int
  | 1 => .array .int
  | 2 => .array .int
  | 3 => .array .int
  | 4 => .int
  | 5 => .int
  | _ => .int
abbrev wsX10 : List Cond := u_ws RX1 TX1 7
theorem nmX1 : ∀ a, a < 7 → ∀ b, b < 7 → a ≠ b → (TX1 a).2.1 ≠ (TX1 b).2.1 := by decide +kernel
theorem tyX1_ok : ∀ k, k < 7 → parseFieldDescriptor (TX1 k).2.2.1 = some (tyX1 k) := by decide +kernel
abbrev cX1_init : ByteArray := prog_3_method_1_code
def yX1_init : MethodName := ⟨RX1, "<init>", "()V"⟩
abbrev cX1_restart : ByteArray := prog_3_method_2_code
def yX1_restart : MethodName := ⟨RX1, "restart", "(I)V"⟩
abbrev cX1_hasJoint : ByteArray := prog_3_method_3_code
def yX1_hasJoint : MethodName := ⟨RX1, "hasJoint", "(I)Z"⟩
abbrev cX1_hasBar : ByteArray := prog_3_method_4_code
def yX1_hasBar : MethodName := ⟨RX1, "hasBar", "(I)Z"⟩
abbrev cX1_hasSet : ByteArray := prog_3_method_5_code
def yX1_hasSet : MethodName := ⟨RX1, "hasSet", "(I)Z"⟩
abbrev cX1_allBars : ByteArray := prog_3_method_6_code
def yX1_allBars : MethodName := ⟨RX1, "allBars", "()I"⟩
abbrev cX1_allJoints : ByteArray := prog_3_method_7_code
def yX1_allJoints : MethodName := ⟨RX1, "allJoints", "()I"⟩
abbrev cX1_move : ByteArray := prog_3_method_8_code
def yX1_move : MethodName := ⟨RX1, "move", "(IIII)Z"⟩
abbrev cX1_isJoined : ByteArray := prog_3_method_9_code
def yX1_isJoined : MethodName := ⟨RX1, "isJoined", "(II)Z"⟩
abbrev cX1_join : ByteArray := prog_3_method_10_code
def yX1_join : MethodName := ⟨RX1, "join", "(II)I"⟩
abbrev cX1_dropLast : ByteArray := prog_3_method_11_code
def yX1_dropLast : MethodName := ⟨RX1, "dropLast", "()I"⟩
abbrev cX1_barsSigned : ByteArray := prog_3_method_12_code
def yX1_barsSigned : MethodName := ⟨RX1, "barsSigned", "(I)I"⟩
abbrev cX1_neighbours : ByteArray := prog_3_method_13_code
def yX1_neighbours : MethodName := ⟨RX1, "neighbours", "(I)I"⟩
abbrev cX1_hangsTogether : ByteArray := prog_3_method_14_code
def yX1_hangsTogether : MethodName := ⟨RX1, "hangsTogether", "(I)Z"⟩
def RX2 : String := "RigidRanks$Matroid"
def TX2 : u_T := fun k => match k with
  | _ => ("", "", "", false)
def tyX2 : Nat → FieldType := fun k => match k with
  | _ => .int
abbrev wsX20 : List Cond := u_ws RX2 TX2 0
theorem nmX2 : ∀ a, a < 0 → ∀ b, b < 0 → a ≠ b → (TX2 a).2.1 ≠ (TX2 b).2.1 := by decide +kernel
theorem tyX2_ok : ∀ k, k < 0 → parseFieldDescriptor (TX2 k).2.2.1 = some (tyX2 k) := by decide +kernel
abbrev cX2_init : ByteArray := prog_4_method_1_code
def yX2_init : MethodName := ⟨RX2, "<init>", "(LRigidRanks$Frame;)V"⟩
abbrev cX2_refresh : ByteArray := prog_4_method_6_code
def yX2_refresh : MethodName := ⟨RX2, "refresh", "()V"⟩
abbrev cX2_grow : ByteArray := prog_4_method_7_code
def yX2_grow : MethodName := ⟨RX2, "grow", "(III)V"⟩
abbrev cX2_completeBases : ByteArray := prog_4_method_8_code
def yX2_completeBases : MethodName := ⟨RX2, "completeBases", "()V"⟩
abbrev cX2_rankOf : ByteArray := prog_4_method_9_code
def yX2_rankOf : MethodName := ⟨RX2, "rankOf", "(I)I"⟩
abbrev cX2_closureOf : ByteArray := prog_4_method_10_code
def yX2_closureOf : MethodName := ⟨RX2, "closureOf", "(I)I"⟩
abbrev cX2_isClosed : ByteArray := prog_4_method_11_code
def yX2_isClosed : MethodName := ⟨RX2, "isClosed", "(I)Z"⟩
abbrev cX2_spareBars : ByteArray := prog_4_method_12_code
def yX2_spareBars : MethodName := ⟨RX2, "spareBars", "()I"⟩
abbrev cX2_isIndependent : ByteArray := prog_4_method_13_code
def yX2_isIndependent : MethodName := ⟨RX2, "isIndependent", "(I)Z"⟩
abbrev cX2_isCircuit : ByteArray := prog_4_method_14_code
def yX2_isCircuit : MethodName := ⟨RX2, "isCircuit", "(I)Z"⟩
abbrev cX2_isSpanning : ByteArray := prog_4_method_15_code
def yX2_isSpanning : MethodName := ⟨RX2, "isSpanning", "(I)Z"⟩
abbrev cX2_meetsBasesBarely : ByteArray := prog_4_method_16_code
def yX2_meetsBasesBarely : MethodName := ⟨RX2, "meetsBasesBarely", "(I)Z"⟩
abbrev cX2_isOfKind : ByteArray := prog_4_method_17_code
def yX2_isOfKind : MethodName := ⟨RX2, "isOfKind", "(II)Z"⟩
abbrev cX2_howManySets : ByteArray := prog_4_method_18_code
def yX2_howManySets : MethodName := ⟨RX2, "howManySets", "(I)I"⟩
abbrev cX2_setAt : ByteArray := prog_4_method_19_code
def yX2_setAt : MethodName := ⟨RX2, "setAt", "(II)I"⟩
abbrev cX2_gatherParts : ByteArray := prog_4_method_20_code
def yX2_gatherParts : MethodName := ⟨RX2, "gatherParts", "()V"⟩
abbrev cX2_isLeastOfPart : ByteArray := prog_4_method_21_code
def yX2_isLeastOfPart : MethodName := ⟨RX2, "isLeastOfPart", "(I)Z"⟩
abbrev cX2_howManyParts : ByteArray := prog_4_method_22_code
def yX2_howManyParts : MethodName := ⟨RX2, "howManyParts", "()I"⟩
abbrev cX2_partAt : ByteArray := prog_4_method_23_code
def yX2_partAt : MethodName := ⟨RX2, "partAt", "(I)I"⟩
abbrev cX2_tallyPowers : ByteArray := prog_4_method_24_code
def yX2_tallyPowers : MethodName := ⟨RX2, "tallyPowers", "()V"⟩
abbrev cX2_coefficientAt : ByteArray := prog_4_method_25_code
def yX2_coefficientAt : MethodName := ⟨RX2, "coefficientAt", "(II)I"⟩
abbrev cX2_choose : ByteArray := prog_4_method_26_code
def yX2_choose : MethodName := ⟨RX2, "choose", "(II)I"⟩
abbrev cX2_areLinked : ByteArray := prog_4_method_27_code
def yX2_areLinked : MethodName := ⟨RX2, "areLinked", "(I)Z"⟩
abbrev cX2_isCluster : ByteArray := prog_4_method_28_code
def yX2_isCluster : MethodName := ⟨RX2, "isCluster", "(I)Z"⟩
abbrev cX2_clusterAt : ByteArray := prog_4_method_29_code
def yX2_clusterAt : MethodName := ⟨RX2, "clusterAt", "(I)I"⟩
def RX3 : String := "RigidRanks$Placed"
def TX3 : u_T := fun k => match k with
  | 0 => ("RigidRanks$Matroid", "frame", "LRigidRanks$Frame;", true)
  | 1 => ("RigidRanks$Matroid", "basis", "[I", true)
  | 2 => ("RigidRanks$Matroid", "linked", "[I", true)
  | 3 => ("RigidRanks$Matroid", "parts", "[I", true)
  | 4 => ("RigidRanks$Matroid", "tally", "[I", true)
  | 5 => ("RigidRanks$Matroid", "seen", "I", false)
  | 6 => ("RigidRanks$Placed", "ways", "I", true)
  | 7 => ("RigidRanks$Placed", "sheets", "[LRigidRanks$Sheet;", true)
  | 8 => ("RigidRanks$Placed", "minors", "[J", true)
  | 9 => ("RigidRanks$Placed", "below", "[I", true)
  | _ => ("RigidRanks$Placed", "pairs", "LRigidRanks$Sheet;", true)
def tyX3 : Nat → FieldType := fun k => match k with
  | 0 => .object "RigidRanks$Frame"
  | 1 => .array .int
  | 2 => .array .int
  | 3 => .array .int
  | 4 => .array .int
  | 5 => .int
  | 6 => .int
  | 7 => .array (.object "RigidRanks$Sheet")
  | 8 => .array .long
  | 9 => .array .int
  | _ => .object "RigidRanks$Sheet"
abbrev wsX30 : List Cond := u_ws RX3 TX3 11
theorem nmX3 : ∀ a, a < 11 → ∀ b, b < 11 → a ≠ b → (TX3 a).2.1 ≠ (TX3 b).2.1 := by decide +kernel
theorem tyX3_ok : ∀ k, k < 11 → parseFieldDescriptor (TX3 k).2.2.1 = some (tyX3 k) := by decide +kernel
abbrev cX3_init : ByteArray := prog_5_method_1_code
def yX3_init : MethodName := ⟨RX3, "<init>", "(LRigidRanks$Frame;I)V"⟩
abbrev cX3_writeRow : ByteArray := prog_5_method_2_code
def yX3_writeRow : MethodName := ⟨RX3, "writeRow", "(LRigidRanks$Sheet;III)V"⟩
abbrev cX3_prepare : ByteArray := prog_5_method_3_code
def yX3_prepare : MethodName := ⟨RX3, "prepare", "()V"⟩
abbrev cX3_raises : ByteArray := prog_5_method_4_code
def yX3_raises : MethodName := ⟨RX3, "raises", "(III)Z"⟩
abbrev cX3_noteStress : ByteArray := prog_5_method_5_code
def yX3_noteStress : MethodName := ⟨RX3, "noteStress", "(III)V"⟩
abbrev cX3_pairRow : ByteArray := prog_5_method_6_code
def yX3_pairRow : MethodName := ⟨RX3, "pairRow", "(II)I"⟩
abbrev cX3_howManyPairs : ByteArray := prog_5_method_7_code
def yX3_howManyPairs : MethodName := ⟨RX3, "howManyPairs", "()I"⟩
abbrev cX3_takeOut : ByteArray := prog_5_method_8_code
def yX3_takeOut : MethodName := ⟨RX3, "takeOut", "(I)Z"⟩
abbrev cX3_spanPairs : ByteArray := prog_5_method_9_code
def yX3_spanPairs : MethodName := ⟨RX3, "spanPairs", "(I)V"⟩
abbrev cX3_link : ByteArray := prog_5_method_10_code
def yX3_link : MethodName := ⟨RX3, "link", "(I)V"⟩
abbrev cX3_lacking : ByteArray := prog_5_method_11_code
def yX3_lacking : MethodName := ⟨RX3, "lacking", "()I"⟩
abbrev cX3_stressSign : ByteArray := prog_5_method_12_code
def yX3_stressSign : MethodName := ⟨RX3, "stressSign", "(II)I"⟩
abbrev cX3_bearsSigns : ByteArray := prog_5_method_13_code
def yX3_bearsSigns : MethodName := ⟨RX3, "bearsSigns", "()Z"⟩
def RX4 : String := "RigidRanks$Residues"
def TX4 : u_T := fun k => match k with
  | _ => ("", "", "", false)
def tyX4 : Nat → FieldType := fun k => match k with
  | _ => .int
abbrev wsX40 : List Cond := u_ws RX4 TX4 0
theorem nmX4 : ∀ a, a < 0 → ∀ b, b < 0 → a ≠ b → (TX4 a).2.1 ≠ (TX4 b).2.1 := by decide +kernel
theorem tyX4_ok : ∀ k, k < 0 → parseFieldDescriptor (TX4 k).2.2.1 = some (tyX4 k) := by decide +kernel
abbrev cX4_of : ByteArray := prog_6_method_2_code
def yX4_of : MethodName := ⟨RX4, "of", "(I)J"⟩
abbrev cX4_isBelowZero : ByteArray := prog_6_method_3_code
def yX4_isBelowZero : MethodName := ⟨RX4, "isBelowZero", "(J)Z"⟩
abbrev cX4_minus : ByteArray := prog_6_method_4_code
def yX4_minus : MethodName := ⟨RX4, "minus", "(JJ)J"⟩
abbrev cX4_times : ByteArray := prog_6_method_5_code
def yX4_times : MethodName := ⟨RX4, "times", "(JJ)J"⟩
abbrev cX4_inverse : ByteArray := prog_6_method_6_code
def yX4_inverse : MethodName := ⟨RX4, "inverse", "(J)J"⟩
def RX5 : String := "RigidRanks$Sheet"
def TX5 : u_T := fun k => match k with
  | 0 => ("RigidRanks$Sheet", "columns", "I", true)
  | 1 => ("RigidRanks$Sheet", "cells", "[J", true)
  | _ => ("RigidRanks$Sheet", "lead", "[J", true)
def tyX5 : Nat → FieldType := fun k => match k with
  | 0 => .int
  | 1 => .array .long
  | _ => .array .long
abbrev wsX50 : List Cond := u_ws RX5 TX5 3
theorem nmX5 : ∀ a, a < 3 → ∀ b, b < 3 → a ≠ b → (TX5 a).2.1 ≠ (TX5 b).2.1 := by decide +kernel
theorem tyX5_ok : ∀ k, k < 3 → parseFieldDescriptor (TX5 k).2.2.1 = some (tyX5 k) := by decide +kernel
abbrev cX5_init : ByteArray := prog_7_method_1_code
def yX5_init : MethodName := ⟨RX5, "<init>", "(II)V"⟩
abbrev cX5_clear : ByteArray := prog_7_method_2_code
def yX5_clear : MethodName := ⟨RX5, "clear", "(I)V"⟩
abbrev cX5_put : ByteArray := prog_7_method_3_code
def yX5_put : MethodName := ⟨RX5, "put", "(III)V"⟩
abbrev cX5_get : ByteArray := prog_7_method_4_code
def yX5_get : MethodName := ⟨RX5, "get", "(II)J"⟩
abbrev cX5_leadColumn : ByteArray := prog_7_method_5_code
def yX5_leadColumn : MethodName := ⟨RX5, "leadColumn", "(I)I"⟩
abbrev cX5_reduceInto : ByteArray := prog_7_method_6_code
def yX5_reduceInto : MethodName := ⟨RX5, "reduceInto", "(LRigidRanks$Sheet;III)Z"⟩
def RX6 : String := "RigidRanks"
def TX6 : u_T := fun k => match k with
  | 0 => ("RigidRanks", "frame", "LRigidRanks$Frame;", true)
  | 1 => ("RigidRanks", "matroids", "[LRigidRanks$Matroid;", true)
  | _ => ("RigidRanks", "order", "[I", true)
def tyX6 : Nat → FieldType := fun k => match k with
  | 0 => .object "RigidRanks$Frame"
  | 1 => .array (.object "RigidRanks$Matroid")
  | _ => .array .int
abbrev wsX60 : List Cond := u_ws RX6 TX6 3
theorem nmX6 : ∀ a, a < 3 → ∀ b, b < 3 → a ≠ b → (TX6 a).2.1 ≠ (TX6 b).2.1 := by decide +kernel
theorem tyX6_ok : ∀ k, k < 3 → parseFieldDescriptor (TX6 k).2.2.1 = some (tyX6 k) := by decide +kernel
abbrev cX6_init : ByteArray := prog_1_method_1_code
def yX6_init : MethodName := ⟨RX6, "<init>", "()V"⟩
abbrev cX6_begin : ByteArray := prog_1_method_2_code
def yX6_begin : MethodName := ⟨RX6, "begin", "(I)I"⟩
abbrev cX6_joint : ByteArray := prog_1_method_3_code
def yX6_joint : MethodName := ⟨RX6, "joint", "(IIII)I"⟩
abbrev cX6_bar : ByteArray := prog_1_method_4_code
def yX6_bar : MethodName := ⟨RX6, "bar", "(II)I"⟩
abbrev cX6_unbar : ByteArray := prog_1_method_5_code
def yX6_unbar : MethodName := ⟨RX6, "unbar", "()I"⟩
abbrev cX6_sign : ByteArray := prog_1_method_6_code
def yX6_sign : MethodName := ⟨RX6, "sign", "(II)I"⟩
abbrev cX6_count : ByteArray := prog_1_method_7_code
def yX6_count : MethodName := ⟨RX6, "count", "(I)I"⟩
abbrev cX6_end : ByteArray := prog_1_method_8_code
def yX6_end : MethodName := ⟨RX6, "end", "(II)I"⟩
abbrev cX6_at : ByteArray := prog_1_method_9_code
def yX6_at : MethodName := ⟨RX6, "at", "(II)I"⟩
abbrev cX6_rank : ByteArray := prog_1_method_10_code
def yX6_rank : MethodName := ⟨RX6, "rank", "(II)I"⟩
abbrev cX6_closure : ByteArray := prog_1_method_11_code
def yX6_closure : MethodName := ⟨RX6, "closure", "(II)I"⟩
abbrev cX6_implied : ByteArray := prog_1_method_12_code
def yX6_implied : MethodName := ⟨RX6, "implied", "(IIII)I"⟩
abbrev cX6_rigid : ByteArray := prog_1_method_13_code
def yX6_rigid : MethodName := ⟨RX6, "rigid", "(I)I"⟩
abbrev cX6_lacks : ByteArray := prog_1_method_14_code
def yX6_lacks : MethodName := ⟨RX6, "lacks", "(I)I"⟩
abbrev cX6_spare : ByteArray := prog_1_method_15_code
def yX6_spare : MethodName := ⟨RX6, "spare", "(I)I"⟩
abbrev cX6_many : ByteArray := prog_1_method_16_code
def yX6_many : MethodName := ⟨RX6, "many", "(II)I"⟩
abbrev cX6_told : ByteArray := prog_1_method_17_code
def yX6_told : MethodName := ⟨RX6, "told", "(III)I"⟩
abbrev cX6_coefficient : ByteArray := prog_1_method_18_code
def yX6_coefficient : MethodName := ⟨RX6, "coefficient", "(III)I"⟩
abbrev cX6_cluster : ByteArray := prog_1_method_19_code
def yX6_cluster : MethodName := ⟨RX6, "cluster", "(II)I"⟩
abbrev cX6_stressed : ByteArray := prog_1_method_20_code
def yX6_stressed : MethodName := ⟨RX6, "stressed", "(III)I"⟩
abbrev cX6_holds : ByteArray := prog_1_method_21_code
def yX6_holds : MethodName := ⟨RX6, "holds", "(I)I"⟩
abbrev cX6_built : ByteArray := prog_1_method_22_code
def yX6_built : MethodName := ⟨RX6, "built", "(I)I"⟩
abbrev cX6_oneShape : ByteArray := prog_1_method_23_code
def yX6_oneShape : MethodName := ⟨RX6, "oneShape", "()I"⟩
abbrev cX6_isTooFar : ByteArray := prog_1_method_24_code
def yX6_isTooFar : MethodName := ⟨RX6, "isTooFar", "(I)Z"⟩
abbrev cX6_isPair : ByteArray := prog_1_method_25_code
def yX6_isPair : MethodName := ⟨RX6, "isPair", "(II)Z"⟩
abbrev cX6_matroidOf : ByteArray := prog_1_method_26_code
def yX6_matroidOf : MethodName := ⟨RX6, "matroidOf", "(I)LRigidRanks$Matroid;"⟩
abbrev cX6_makeMatroid : ByteArray := prog_1_method_27_code
def yX6_makeMatroid : MethodName := ⟨RX6, "makeMatroid", "(I)LRigidRanks$Matroid;"⟩
abbrev cX6_lineUp : ByteArray := prog_1_method_28_code
def yX6_lineUp : MethodName := ⟨RX6, "lineUp", "(II)Z"⟩
abbrev cX6_staysTogether : ByteArray := prog_1_method_29_code
def yX6_staysTogether : MethodName := ⟨RX6, "staysTogether", "()Z"⟩
def RX7 : String := "RigidRanksModel"
def TX7 : u_T := fun k => match k with
  | 0 => ("RigidRanksModel", "n", "I", false)
  | 1 => ("RigidRanksModel", "place", "[I", true)
  | 2 => ("RigidRanksModel", "bars", "I", false)
  | 3 => ("RigidRanksModel", "endA", "[I", true)
  | 4 => ("RigidRanksModel", "endB", "[I", true)
  | 5 => ("RigidRanksModel", "signs", "[I", true)
  | 6 => ("RigidRanksModel", "ranks", "[I", true)
  | 7 => ("RigidRanksModel", "isReady", "[Z", true)
  | 8 => ("RigidRanksModel", "cells", "[J", true)
  | 9 => ("RigidRanksModel", "rows", "I", false)
  | 10 => ("RigidRanksModel", "columns", "I", false)
  | 11 => ("RigidRanksModel", "work", "[J", true)
  | 12 => ("RigidRanksModel", "pivot", "[I", true)
  | 13 => ("RigidRanksModel", "product", "J", false)
  | 14 => ("RigidRanksModel", "pairA", "[I", true)
  | 15 => ("RigidRanksModel", "pairB", "[I", true)
  | 16 => ("RigidRanksModel", "pairs", "I", false)
  | 17 => ("RigidRanksModel", "partOf", "[I", true)
  | 18 => ("RigidRanksModel", "partMany", "I", false)
  | 19 => ("RigidRanksModel", "isPair", "[Z", true)
  | 20 => ("RigidRanksModel", "stress", "[J", true)
  | 21 => ("RigidRanksModel", "column", "[I", true)
  | 22 => ("RigidRanksModel", "chosen", "[J", true)
  | _ => ("RigidRanksModel", "order", "[I", true)
def tyX7 : Nat → FieldType := fun k => match k with
  | 0 => .int
  | 1 => .array .int
  | 2 => .int
  | 3 => .array .int
  | 4 => .array .int
  | 5 => .array .int
  | 6 => .array .int
  | 7 => .array .boolean
  | 8 => .array .long
  | 9 => .int
  | 10 => .int
  | 11 => .array .long
  | 12 => .array .int
  | 13 => .long
  | 14 => .array .int
  | 15 => .array .int
  | 16 => .int
  | 17 => .array .int
  | 18 => .int
  | 19 => .array .boolean
  | 20 => .array .long
  | 21 => .array .int
  | 22 => .array .long
  | _ => .array .int
abbrev wsX70 : List Cond := u_ws RX7 TX7 24
theorem nmX7 : ∀ a, a < 24 → ∀ b, b < 24 → a ≠ b → (TX7 a).2.1 ≠ (TX7 b).2.1 := by decide +kernel
theorem tyX7_ok : ∀ k, k < 24 → parseFieldDescriptor (TX7 k).2.2.1 = some (tyX7 k) := by decide +kernel
abbrev cX7_isIn : ByteArray := prog_9_method_1_code
def yX7_isIn : MethodName := ⟨RX7, "isIn", "(III)Z"⟩
abbrev cX7_init : ByteArray := prog_9_method_2_code
def yX7_init : MethodName := ⟨RX7, "<init>", "()V"⟩
abbrev cX7_change : ByteArray := prog_9_method_3_code
def yX7_change : MethodName := ⟨RX7, "change", "()V"⟩
abbrev cX7_begin : ByteArray := prog_9_method_4_code
def yX7_begin : MethodName := ⟨RX7, "begin", "(I)I"⟩
abbrev cX7_isJoint : ByteArray := prog_9_method_5_code
def yX7_isJoint : MethodName := ⟨RX7, "isJoint", "(I)Z"⟩
abbrev cX7_isWay : ByteArray := prog_9_method_6_code
def yX7_isWay : MethodName := ⟨RX7, "isWay", "(I)Z"⟩
abbrev cX7_joint : ByteArray := prog_9_method_7_code
def yX7_joint : MethodName := ⟨RX7, "joint", "(IIII)I"⟩
abbrev cX7_bar : ByteArray := prog_9_method_8_code
def yX7_bar : MethodName := ⟨RX7, "bar", "(II)I"⟩
abbrev cX7_unbar : ByteArray := prog_9_method_9_code
def yX7_unbar : MethodName := ⟨RX7, "unbar", "()I"⟩
abbrev cX7_sign : ByteArray := prog_9_method_10_code
def yX7_sign : MethodName := ⟨RX7, "sign", "(II)I"⟩
abbrev cX7_count : ByteArray := prog_9_method_11_code
def yX7_count : MethodName := ⟨RX7, "count", "(I)I"⟩
abbrev cX7_end : ByteArray := prog_9_method_12_code
def yX7_end : MethodName := ⟨RX7, "end", "(II)I"⟩
abbrev cX7_at : ByteArray := prog_9_method_13_code
def yX7_at : MethodName := ⟨RX7, "at", "(II)I"⟩
abbrev cX7_left : ByteArray := prog_9_method_14_code
def yX7_left : MethodName := ⟨RX7, "left", "(JJ)J"⟩
abbrev cX7_putRow : ByteArray := prog_9_method_15_code
def yX7_putRow : MethodName := ⟨RX7, "putRow", "(III)V"⟩
abbrev cX7_putSet : ByteArray := prog_9_method_16_code
def yX7_putSet : MethodName := ⟨RX7, "putSet", "(II)V"⟩
abbrev cX7_inverse : ByteArray := prog_9_method_17_code
def yX7_inverse : MethodName := ⟨RX7, "inverse", "(JJ)J"⟩
abbrev cX7_swapRows : ByteArray := prog_9_method_18_code
def yX7_swapRows : MethodName := ⟨RX7, "swapRows", "(II)V"⟩
abbrev cX7_rankBy : ByteArray := prog_9_method_19_code
def yX7_rankBy : MethodName := ⟨RX7, "rankBy", "(J)I"⟩
abbrev cX7_clearBelow : ByteArray := prog_9_method_20_code
def yX7_clearBelow : MethodName := ⟨RX7, "clearBelow", "(IIJ)V"⟩
abbrev cX7_rankOfRows : ByteArray := prog_9_method_21_code
def yX7_rankOfRows : MethodName := ⟨RX7, "rankOfRows", "()I"⟩
abbrev cX7_ones : ByteArray := prog_9_method_22_code
def yX7_ones : MethodName := ⟨RX7, "ones", "(I)I"⟩
abbrev cX7_isFree : ByteArray := prog_9_method_23_code
def yX7_isFree : MethodName := ⟨RX7, "isFree", "()Z"⟩
abbrev cX7_putPair : ByteArray := prog_9_method_24_code
def yX7_putPair : MethodName := ⟨RX7, "putPair", "(II)V"⟩
abbrev cX7_tryPair : ByteArray := prog_9_method_25_code
def yX7_tryPair : MethodName := ⟨RX7, "tryPair", "(II)Z"⟩
abbrev cX7_prepare : ByteArray := prog_9_method_26_code
def yX7_prepare : MethodName := ⟨RX7, "prepare", "(I)V"⟩
abbrev cX7_exactRank : ByteArray := prog_9_method_27_code
def yX7_exactRank : MethodName := ⟨RX7, "exactRank", "(II)I"⟩
abbrev cX7_countedRank : ByteArray := prog_9_method_28_code
def yX7_countedRank : MethodName := ⟨RX7, "countedRank", "(I)I"⟩
abbrev cX7_all : ByteArray := prog_9_method_29_code
def yX7_all : MethodName := ⟨RX7, "all", "()I"⟩
abbrev cX7_isSort : ByteArray := prog_9_method_30_code
def yX7_isSort : MethodName := ⟨RX7, "isSort", "(I)Z"⟩
abbrev cX7_isSet : ByteArray := prog_9_method_31_code
def yX7_isSet : MethodName := ⟨RX7, "isSet", "(I)Z"⟩
abbrev cX7_rankOf : ByteArray := prog_9_method_32_code
def yX7_rankOf : MethodName := ⟨RX7, "rankOf", "(II)I"⟩
abbrev cX7_rank : ByteArray := prog_9_method_33_code
def yX7_rank : MethodName := ⟨RX7, "rank", "(II)I"⟩
abbrev cX7_closureOf : ByteArray := prog_9_method_34_code
def yX7_closureOf : MethodName := ⟨RX7, "closureOf", "(II)I"⟩
abbrev cX7_closure : ByteArray := prog_9_method_35_code
def yX7_closure : MethodName := ⟨RX7, "closure", "(II)I"⟩
abbrev cX7_isImplied : ByteArray := prog_9_method_36_code
def yX7_isImplied : MethodName := ⟨RX7, "isImplied", "(IIII)Z"⟩
abbrev cX7_implied : ByteArray := prog_9_method_37_code
def yX7_implied : MethodName := ⟨RX7, "implied", "(IIII)I"⟩
abbrev cX7_isRigid : ByteArray := prog_9_method_38_code
def yX7_isRigid : MethodName := ⟨RX7, "isRigid", "(I)Z"⟩
abbrev cX7_rigid : ByteArray := prog_9_method_39_code
def yX7_rigid : MethodName := ⟨RX7, "rigid", "(I)I"⟩
abbrev cX7_lacks : ByteArray := prog_9_method_40_code
def yX7_lacks : MethodName := ⟨RX7, "lacks", "(I)I"⟩
abbrev cX7_addPairs : ByteArray := prog_9_method_41_code
def yX7_addPairs : MethodName := ⟨RX7, "addPairs", "(III)I"⟩
abbrev cX7_spareOf : ByteArray := prog_9_method_42_code
def yX7_spareOf : MethodName := ⟨RX7, "spareOf", "(I)I"⟩
abbrev cX7_spare : ByteArray := prog_9_method_43_code
def yX7_spare : MethodName := ⟨RX7, "spare", "(I)I"⟩
abbrev cX7_isCircuit : ByteArray := prog_9_method_44_code
def yX7_isCircuit : MethodName := ⟨RX7, "isCircuit", "(II)Z"⟩
abbrev cX7_isMeeting : ByteArray := prog_9_method_45_code
def yX7_isMeeting : MethodName := ⟨RX7, "isMeeting", "(II)Z"⟩
abbrev cX7_isLeastMeeting : ByteArray := prog_9_method_46_code
def yX7_isLeastMeeting : MethodName := ⟨RX7, "isLeastMeeting", "(II)Z"⟩
abbrev cX7_isKind : ByteArray := prog_9_method_47_code
def yX7_isKind : MethodName := ⟨RX7, "isKind", "(III)Z"⟩
abbrev cX7_findParts : ByteArray := prog_9_method_48_code
def yX7_findParts : MethodName := ⟨RX7, "findParts", "(I)V"⟩
abbrev cX7_part : ByteArray := prog_9_method_49_code
def yX7_part : MethodName := ⟨RX7, "part", "(II)I"⟩
abbrev cX7_many : ByteArray := prog_9_method_50_code
def yX7_many : MethodName := ⟨RX7, "many", "(II)I"⟩
abbrev cX7_told : ByteArray := prog_9_method_51_code
def yX7_told : MethodName := ⟨RX7, "told", "(III)I"⟩
abbrev cX7_choose : ByteArray := prog_9_method_52_code
def yX7_choose : MethodName := ⟨RX7, "choose", "(II)I"⟩
abbrev cX7_term : ByteArray := prog_9_method_53_code
def yX7_term : MethodName := ⟨RX7, "term", "(II)I"⟩
abbrev cX7_coefficient : ByteArray := prog_9_method_54_code
def yX7_coefficient : MethodName := ⟨RX7, "coefficient", "(III)I"⟩
abbrev cX7_isWhole : ByteArray := prog_9_method_55_code
def yX7_isWhole : MethodName := ⟨RX7, "isWhole", "(I)Z"⟩
abbrev cX7_cluster : ByteArray := prog_9_method_56_code
def yX7_cluster : MethodName := ⟨RX7, "cluster", "(II)I"⟩
abbrev cX7_minorBy : ByteArray := prog_9_method_57_code
def yX7_minorBy : MethodName := ⟨RX7, "minorBy", "(IIIJ)J"⟩
abbrev cX7_together : ByteArray := prog_9_method_58_code
def yX7_together : MethodName := ⟨RX7, "together", "(JJ)J"⟩
abbrev cX7_findStress : ByteArray := prog_9_method_59_code
def yX7_findStress : MethodName := ⟨RX7, "findStress", "(II)V"⟩
abbrev cX7_stressed : ByteArray := prog_9_method_60_code
def yX7_stressed : MethodName := ⟨RX7, "stressed", "(III)I"⟩
abbrev cX7_helped : ByteArray := prog_9_method_61_code
def yX7_helped : MethodName := ⟨RX7, "helped", "(I)I"⟩
abbrev cX7_holds : ByteArray := prog_9_method_62_code
def yX7_holds : MethodName := ⟨RX7, "holds", "(I)I"⟩
abbrev cX7_barsBetween : ByteArray := prog_9_method_63_code
def yX7_barsBetween : MethodName := ⟨RX7, "barsBetween", "(II)I"⟩
abbrev cX7_isBuilt : ByteArray := prog_9_method_64_code
def yX7_isBuilt : MethodName := ⟨RX7, "isBuilt", "()Z"⟩
abbrev cX7_nextOrder : ByteArray := prog_9_method_65_code
def yX7_nextOrder : MethodName := ⟨RX7, "nextOrder", "()Z"⟩
abbrev cX7_built : ByteArray := prog_9_method_66_code
def yX7_built : MethodName := ⟨RX7, "built", "(I)I"⟩
abbrev cX7_hangs : ByteArray := prog_9_method_67_code
def yX7_hangs : MethodName := ⟨RX7, "hangs", "(I)Z"⟩
abbrev cX7_oneShape : ByteArray := prog_9_method_68_code
def yX7_oneShape : MethodName := ⟨RX7, "oneShape", "()I"⟩
def RJ6 : String := "java/lang/Integer"
def TJ6 : u_T := fun k => match k with
  | _ => ("", "", "", false)
def tyJ6 : Nat → FieldType := fun k => match k with
  | _ => .int
abbrev wsJ60 : List Cond := u_ws RJ6 TJ6 0
theorem nmJ6 : ∀ a, a < 0 → ∀ b, b < 0 → a ≠ b → (TJ6 a).2.1 ≠ (TJ6 b).2.1 := by decide +kernel
theorem tyJ6_ok : ∀ k, k < 0 → parseFieldDescriptor (TJ6 k).2.2.1 = some (tyJ6 k) := by decide +kernel
abbrev cJ6_bitCount_0f7a4 : ByteArray := prog_10_method_49_code
def yJ6_bitCount_0f7a4 : MethodName := ⟨RJ6, "bitCount", "(I)I"⟩
def RJ9 : String := "java/lang/Math"
def TJ9 : u_T := fun k => match k with
  | _ => ("", "", "", false)
def tyJ9 : Nat → FieldType := fun k => match k with
  | _ => .int
abbrev wsJ90 : List Cond := u_ws RJ9 TJ9 0
theorem nmJ9 : ∀ a, a < 0 → ∀ b, b < 0 → a ≠ b → (TJ9 a).2.1 ≠ (TJ9 b).2.1 := by decide +kernel
theorem tyJ9_ok : ∀ k, k < 0 → parseFieldDescriptor (TJ9 k).2.2.1 = some (tyJ9 k) := by decide +kernel
abbrev cJ9_max_7cf53 : ByteArray := prog_11_method_65_code
def yJ9_max_7cf53 : MethodName := ⟨RJ9, "max", "(II)I"⟩
abbrev cJ9_min_7cf53 : ByteArray := prog_11_method_69_code
def yJ9_min_7cf53 : MethodName := ⟨RJ9, "min", "(II)I"⟩
def RJ10 : String := "java/lang/System"
def TJ10 : u_T := fun k => match k with
  | _ => ("", "", "", false)
def tyJ10 : Nat → FieldType := fun k => match k with
  | _ => .int
abbrev wsJ100 : List Cond := u_ws RJ10 TJ10 0
theorem nmJ10 : ∀ a, a < 0 → ∀ b, b < 0 → a ≠ b → (TJ10 a).2.1 ≠ (TJ10 b).2.1 := by decide +kernel
theorem tyJ10_ok : ∀ k, k < 0 → parseFieldDescriptor (TJ10 k).2.2.1 = some (tyJ10 k) := by decide +kernel
def RJ7 : String := "java/util/Arrays"
def TJ7 : u_T := fun k => match k with
  | _ => ("", "", "", false)
def tyJ7 : Nat → FieldType := fun k => match k with
  | _ => .int
abbrev wsJ70 : List Cond := u_ws RJ7 TJ7 0
theorem nmJ7 : ∀ a, a < 0 → ∀ b, b < 0 → a ≠ b → (TJ7 a).2.1 ≠ (TJ7 b).2.1 := by decide +kernel
theorem tyJ7_ok : ∀ k, k < 0 → parseFieldDescriptor (TJ7 k).2.2.1 = some (tyJ7 k) := by decide +kernel
abbrev cJ7_fill_53178 : ByteArray := prog_13_method_103_code
def yJ7_fill_53178 : MethodName := ⟨RJ7, "fill", "([II)V"⟩
def RL : String := "RigidRanksLaw"
abbrev cL_law : ByteArray := code
def yL_law : MethodName := ⟨RL, "law", "([I)Z"⟩
abbrev vwCl : List vw_C := [(RX0, TX0, 8), (RX1, TX1, 7), (RX3, TX3, 11), (RX5, TX5, 3), (RX6, TX6, 3), (RX7, TX7, 24)]
end
section
/-! THE SMALL MACHINE, its locals: a row of values by their places, none where nothing is known -/
abbrev zL : Type := List (Option Value)
def zget (L : zL) (i : Nat) : Option Value := (L[i]?).join
def zcut (L : zL) (i : Nat) : zL := match i with
  | 0 => L
  | j + 1 => match zget L j with
    | some v => if v.category = 2 then L.set j none else L
    | none => L
def zst1 (L : zL) (i : Nat) (v : Value) : zL := (zcut L i).set i (some v)
def zst2 (L : zL) (i : Nat) (v : Value) : zL := ((zcut L i).set i (some v)).set (i + 1) none
def zas : Nat → zL → List (Nat × Value)
  | _, [] => []
  | k, none :: L => zas (k + 1) L
  | k, some v :: L => (k, v) :: zas (k + 1) L
theorem zas_mem : ∀ (L : zL) (k i : Nat) (v : Value), (i, v) ∈ zas k L ↔ k ≤ i ∧ zget L (i - k) = some v
  | [], k, i, v => by simp [zas, zget]
  | none :: L, k, i, v => by
    rw [zas, zas_mem L (k + 1) i v]
    constructor
    · rintro ⟨h1, h2⟩
      refine ⟨by omega, ?_⟩
      rw [show i - k = (i - (k + 1)) + 1 by omega]
      simpa [zget] using h2
    · rintro ⟨h1, h2⟩
      by_cases hk : i = k
      · subst hk
        simp [zget] at h2
      · refine ⟨by omega, ?_⟩
        rw [show i - k = (i - (k + 1)) + 1 by omega] at h2
        simpa [zget] using h2
  | some u :: L, k, i, v => by
    rw [zas, List.mem_cons, zas_mem L (k + 1) i v]
    constructor
    · rintro (h | ⟨h1, h2⟩)
      · obtain ⟨rfl, rfl⟩ := Prod.mk.inj h
        simp [zget]
      · refine ⟨by omega, ?_⟩
        rw [show i - k = (i - (k + 1)) + 1 by omega]
        simpa [zget] using h2
    · rintro ⟨h1, h2⟩
      by_cases hk : i = k
      · subst hk
        simp [zget] at h2
        exact Or.inl (by rw [h2])
      · right
        refine ⟨by omega, ?_⟩
        rw [show i - k = (i - (k + 1)) + 1 by omega] at h2
        simpa [zget] using h2
theorem zas_mem0 {L : zL} {i : Nat} {v : Value} : (i, v) ∈ zas 0 L ↔ zget L i = some v := by
  rw [zas_mem]
  simp
def zR (ls : Array Slot) (nL : Nat) (L : zL) : Prop := lv_has ls nL (zas 0 L)
theorem zR.get {ls : Array Slot} {nL : Nat} {L : zL} (h : zR ls nL L) {i : Nat} {v : Value} (hv : zget L i = some v) : ls[i]? = some (.val v) := h.2.2 (i, v) (zas_mem0.mpr hv)
theorem lv_more {ls : Array Slot} {nL : Nat} {l l' : List (Nat × Value)} (h : lv_has ls nL l) (hl : ∀ q ∈ l', q ∈ l) : lv_has ls nL l' := ⟨h.1, h.2.1, fun q hq => h.2.2 q (hl q hq)⟩
theorem zget_set_self {L : zL} {i : Nat} {x : Option Value} {v : Value} (h : zget (L.set i x) i = some v) : x = some v := by
  unfold zget at h
  rw [List.getElem?_set] at h
  simp at h
  split at h
  · simpa using h
  · simp at h
theorem zget_set_ne {L : zL} {i j : Nat} {x : Option Value} (hj : j ≠ i) : zget (L.set i x) j = zget L j := by
  unfold zget
  rw [List.getElem?_set, if_neg (fun e => hj e.symm)]
theorem zget_cut {L : zL} {i j : Nat} {v : Value} (h : zget (zcut L i) j = some v) : zget L j = some v ∧ (j + 1 = i → v.category ≠ 2) := by
  cases i with
  | zero => exact ⟨h, fun e => by omega⟩
  | succ k =>
    simp only [zcut] at h
    cases hk : zget L k with
    | none =>
      rw [hk] at h
      refine ⟨h, fun e => ?_⟩
      obtain rfl : j = k := by omega
      rw [hk] at h
      cases h
    | some u =>
      rw [hk] at h
      by_cases hc : u.category = 2
      · simp only [hc, if_true] at h
        by_cases hj : j = k
        · subst hj
          have := zget_set_self h
          cases this
        · rw [zget_set_ne hj] at h
          exact ⟨h, fun e => by omega⟩
      · simp only [hc, if_false] at h
        refine ⟨h, fun e => ?_⟩
        obtain rfl : j = k := by omega
        rw [hk] at h
        cases h
        exact hc
theorem zas_st1 {L : zL} {i : Nat} {v : Value} : ∀ q ∈ zas 0 (zst1 L i v), q ∈ (i, v) :: (zas 0 L).filter (fun q => !(q.1 == i) && !(q.1 + 1 == i && q.2.category == 2)) := by
  rintro ⟨j, u⟩ hq
  rw [zas_mem0] at hq
  unfold zst1 at hq
  by_cases hj : j = i
  · subst hj
    have := zget_set_self hq
    cases this
    exact List.mem_cons_self
  · rw [zget_set_ne hj] at hq
    obtain ⟨h1, h2⟩ := zget_cut hq
    refine List.mem_cons_of_mem _ (List.mem_filter.mpr ⟨zas_mem0.mpr h1, ?_⟩)
    simp only [Bool.and_eq_true, Bool.not_eq_true', beq_eq_false_iff_ne, Bool.and_eq_false_imp, beq_iff_eq]
    exact ⟨hj, fun e => h2 e⟩
theorem zas_st2 {L : zL} {i : Nat} {v : Value} : ∀ q ∈ zas 0 (zst2 L i v), q ∈ (i, v) :: (zas 0 L).filter (fun q => !(q.1 == i) && (!(q.1 == i + 1) && !(q.1 + 1 == i && q.2.category == 2))) := by
  rintro ⟨j, u⟩ hq
  rw [zas_mem0] at hq
  unfold zst2 at hq
  by_cases hk : j = i + 1
  · subst hk
    have := zget_set_self hq
    cases this
  rw [zget_set_ne hk] at hq
  by_cases hj : j = i
  · subst hj
    have := zget_set_self hq
    cases this
    exact List.mem_cons_self
  · rw [zget_set_ne hj] at hq
    obtain ⟨h1, h2⟩ := zget_cut hq
    refine List.mem_cons_of_mem _ (List.mem_filter.mpr ⟨zas_mem0.mpr h1, ?_⟩)
    simp only [Bool.and_eq_true, Bool.not_eq_true', beq_eq_false_iff_ne, Bool.and_eq_false_imp, beq_iff_eq]
    exact ⟨hj, hk, fun e => h2 e⟩
theorem zR.st1 {ls : Array Slot} {nL : Nat} {L : zL} {i : Nat} {v : Value} (h : lv_has ls nL ((i, v) :: (zas 0 L).filter (fun q => !(q.1 == i) && !(q.1 + 1 == i && q.2.category == 2)))) : zR ls nL (zst1 L i v) := lv_more h zas_st1
theorem zR.st2 {ls : Array Slot} {nL : Nat} {L : zL} {i : Nat} {v : Value} (h : lv_has ls nL ((i, v) :: (zas 0 L).filter (fun q => !(q.1 == i) && (!(q.1 == i + 1) && !(q.1 + 1 == i && q.2.category == 2))))) : zR ls nL (zst2 L i v) := lv_more h zas_st2
/-- fewer known locals -/
theorem zR.less {ls : Array Slot} {nL : Nat} {L L' : zL} (h : zR ls nL L) (hl : ∀ i v, zget L' i = some v → zget L i = some v) : zR ls nL L' := lv_more h (fun q hq => by
  obtain ⟨j, u⟩ := q
  exact zas_mem0.mpr (hl j u (zas_mem0.mp hq)))
/-- the locals at a method's entry -/
def zen : List Value → zL
  | [] => []
  | v :: vs => if v.category = 2 then some v :: none :: zen vs else some v :: zen vs
end
section
/-! THE SMALL MACHINE: instructions that touch no heap: what they make of place, locals and stack -/
abbrev zF : Type := Nat × zL × List Value
def zN (n len pc : Nat) (L : zL) (st : List Value) : Option zF := if len = n then some (pc + n, L, st) else none
def zJ (pc : Nat) (off : Int) (L : zL) (st : List Value) : Option zF := if 0 ≤ (pc : Int) + off then some (((pc : Int) + off).toNat, L, st) else none
def zkI (v : Value) : Bool := match v with | .int _ => true | _ => false
def zkL (v : Value) : Bool := match v with | .long _ => true | _ => false
def zkA (v : Value) : Bool := match v with | .ref _ => true | .null => true | _ => false
def zld (n len pc : Nat) (L : zL) (st : List Value) (i : Nat) (k : Value → Bool) : Option zF := match zget L i with
  | some v => if k v then zN n len pc L (v :: st) else none
  | none => none
def zs1 (nL n len pc : Nat) (L : zL) (st : List Value) (i : Nat) (k : Value → Bool) : Option zF := match st with
  | v :: r => if k v && decide (i < nL) then zN n len pc (zst1 L i v) r else none
  | [] => none
def zs2 (nL n len pc : Nat) (L : zL) (st : List Value) (i : Nat) : Option zF := match st with
  | .long x :: r => if i + 1 < nL then zN n len pc (zst2 L i (.long x)) r else none
  | _ => none
def zinc (nL len pc : Nat) (L : zL) (st : List Value) (i : Nat) (n : Int) : Option zF := match zget L i with
  | some (.int x) => if i < nL then zN 3 len pc (zst1 L i (.int (x + Int32.ofInt n))) st else none
  | _ => none
def zII (len pc : Nat) (L : zL) (st : List Value) (f : Int32 → Int32 → Int32) : Option zF := match st with
  | .int y :: .int x :: r => zN 1 len pc L (.int (f x y) :: r)
  | _ => none
def zID (len pc : Nat) (L : zL) (st : List Value) (f : Int32 → Int32 → Int32) : Option zF := match st with
  | .int y :: .int x :: r => if y = 0 then none else zN 1 len pc L (.int (f x y) :: r)
  | _ => none
def zI1 (len pc : Nat) (L : zL) (st : List Value) (f : Int32 → Value) : Option zF := match st with
  | .int x :: r => zN 1 len pc L (f x :: r)
  | _ => none
def zLL (len pc : Nat) (L : zL) (st : List Value) (f : Int64 → Int64 → Value) : Option zF := match st with
  | .long y :: .long x :: r => zN 1 len pc L (f x y :: r)
  | _ => none
def zLD (len pc : Nat) (L : zL) (st : List Value) (f : Int64 → Int64 → Value) : Option zF := match st with
  | .long y :: .long x :: r => if y = 0 then none else zN 1 len pc L (f x y :: r)
  | _ => none
def zLI (len pc : Nat) (L : zL) (st : List Value) (f : Int64 → Int32 → Int64) : Option zF := match st with
  | .int y :: .long x :: r => zN 1 len pc L (.long (f x y) :: r)
  | _ => none
def zL1 (len pc : Nat) (L : zL) (st : List Value) (f : Int64 → Value) : Option zF := match st with
  | .long x :: r => zN 1 len pc L (f x :: r)
  | _ => none
def zdup (len pc : Nat) (L : zL) (st : List Value) : Option zF := match st with
  | v :: r => if v.category = 1 then zN 1 len pc L (v :: v :: r) else none
  | [] => none
def zpop (len pc : Nat) (L : zL) (st : List Value) : Option zF := match st with
  | v :: r => if v.category = 1 then zN 1 len pc L r else none
  | [] => none
def zdup2 (len pc : Nat) (L : zL) (st : List Value) : Option zF := match st with
  | v :: u :: r => if v.category = 1 ∧ u.category = 1 then zN 1 len pc L (v :: u :: v :: u :: r) else if v.category = 2 then zN 1 len pc L (v :: v :: u :: r) else none
  | [v] => if v.category = 2 then zN 1 len pc L [v, v] else none
  | [] => none
def zcc (c : Jvm.ClassFile.Cond) (x y : Int32) : Bool := match c with
  | .eq => decide (x = y)
  | .ne => decide (¬ x = y)
  | .lt => decide (x < y)
  | .ge => decide (y ≤ x)
  | .gt => decide (y < x)
  | .le => decide (x ≤ y)
def zbr (len pc : Nat) (L : zL) (r : List Value) (off : Int) (t : Bool) : Option zF := if len = 3 ∧ 0 ≤ (pc : Int) + off then (if t then some (((pc : Int) + off).toNat, L, r) else some (pc + 3, L, r)) else none
def zif (len pc : Nat) (L : zL) (st : List Value) (c : Jvm.ClassFile.Cond) (off : Int) : Option zF := match st with
  | .int x :: r => zbr len pc L r off (zcc c x 0)
  | _ => none
def zic (len pc : Nat) (L : zL) (st : List Value) (c : Jvm.ClassFile.Cond) (off : Int) : Option zF := match st with
  | .int y :: .int x :: r => zbr len pc L r off (zcc c x y)
  | _ => none
def znu (len pc : Nat) (L : zL) (st : List Value) (off : Int) (b : Bool) : Option zF := match st with
  | .null :: r => zbr len pc L r off b
  | .ref _ :: r => zbr len pc L r off (!b)
  | _ => none
def zts (pc : Nat) (L : zL) (st : List Value) (d lo hi : Int) (offs : Array Int) : Option zF := match st with
  | .int x :: r => if x.toInt < lo ∨ hi < x.toInt then zJ pc d L r else match offs[(x.toInt - lo).toNat]? with
    | some off => zJ pc off L r
    | none => none
  | _ => none
def zls (pc : Nat) (L : zL) (st : List Value) (d : Int) (ps : Array (Int × Int)) : Option zF := match st with
  | .int x :: r => if (ps.toList.zip (ps.toList.drop 1)).all (fun (a, next) => a.1 < next.1) = true then zJ pc (Op.lookupswitch.offset ps.toList d x.toInt) L r else none
  | _ => none
def zA (nL : Nat) (i : Instr) (len pc : Nat) (L : zL) (st : List Value) : Option zF := match i with
  | .aconst_null => zN 1 len pc L (.null :: st)
  | .iconst n => zN 1 len pc L (.int (Int32.ofInt n) :: st)
  | .bipush n => zN 2 len pc L (.int (Int8.ofInt n).toInt32 :: st)
  | .sipush n => zN 3 len pc L (.int (Int16.ofInt n).toInt32 :: st)
  | .lconst n => zN 1 len pc L (.long (Int64.ofNat (n : Nat)) :: st)
  | .iload_n k => zld 1 len pc L st (k : Nat) zkI
  | .iload k => zld 2 len pc L st k zkI
  | .lload_n k => zld 1 len pc L st (k : Nat) zkL
  | .lload k => zld 2 len pc L st k zkL
  | .aload_n k => zld 1 len pc L st (k : Nat) zkA
  | .aload k => zld 2 len pc L st k zkA
  | .istore_n k => zs1 nL 1 len pc L st (k : Nat) zkI
  | .istore k => zs1 nL 2 len pc L st k zkI
  | .astore_n k => zs1 nL 1 len pc L st (k : Nat) zkA
  | .astore k => zs1 nL 2 len pc L st k zkA
  | .lstore_n k => zs2 nL 1 len pc L st (k : Nat)
  | .lstore k => zs2 nL 2 len pc L st k
  | .iinc k n => zinc nL len pc L st k n
  | .iadd => zII len pc L st (fun x y => x + y)
  | .isub => zII len pc L st (fun x y => x - y)
  | .imul => zII len pc L st (fun x y => x * y)
  | .iand => zII len pc L st (fun x y => x &&& y)
  | .ior => zII len pc L st (fun x y => x ||| y)
  | .ixor => zII len pc L st (fun x y => x ^^^ y)
  | .ishl => zII len pc L st (fun x y => x <<< (y &&& 31))
  | .ishr => zII len pc L st (fun x y => x >>> (y &&& 31))
  | .iushr => zII len pc L st (fun x y => (x.toUInt32 >>> (y.toUInt32 &&& Int32.toUInt32 31)).toInt32)
  | .idiv => zID len pc L st (fun x y => x / y)
  | .irem => zID len pc L st (fun x y => x - x / y * y)
  | .ineg => zI1 len pc L st (fun x => .int (-x))
  | .i2l => zI1 len pc L st (fun x => .long x.toInt64)
  | .ladd => zLL len pc L st (fun x y => .long (x + y))
  | .lsub => zLL len pc L st (fun x y => .long (x - y))
  | .lmul => zLL len pc L st (fun x y => .long (x * y))
  | .land => zLL len pc L st (fun x y => .long (x &&& y))
  | .lor => zLL len pc L st (fun x y => .long (x ||| y))
  | .lxor => zLL len pc L st (fun x y => .long (x ^^^ y))
  | .lcmp => zLL len pc L st (fun x y => .int (lg_cmp x y))
  | .ldiv => zLD len pc L st (fun x y => .long (x / y))
  | .lrem => zLD len pc L st (fun x y => .long (x - x / y * y))
  | .lneg => zL1 len pc L st (fun x => .long (-x))
  | .l2i => zL1 len pc L st (fun x => .int x.toInt32)
  | .lshl => zLI len pc L st (fun x y => x <<< (y.toInt64 &&& 63))
  | .lshr => zLI len pc L st (fun x y => x >>> (y.toInt64 &&& 63))
  | .lushr => zLI len pc L st (fun x y => (x.toUInt64 >>> (y.toInt64.toUInt64 &&& Int64.toUInt64 63)).toInt64)
  | .dup => zdup len pc L st
  | .pop => zpop len pc L st
  | .dup2 => zdup2 len pc L st
  | .ifCond c off => zif len pc L st c off
  | .if_icmp c off => zic len pc L st c off
  | .ifnull off => znu len pc L st off true
  | .ifnonnull off => znu len pc L st off false
  | .goto off => if len = 3 then zJ pc off L st else none
  | .tableswitch d lo hi offs => zts pc L st d lo hi offs
  | .lookupswitch d ps => zls pc L st d ps
  | _ => none
theorem zN_inv {n len pc : Nat} {L L' : zL} {st st' : List Value} {pc' : Nat} (h : zN n len pc L st = some (pc', L', st')) : len = n ∧ pc + n = pc' ∧ L = L' ∧ st = st' := by
  unfold zN at h
  split at h
  · rename_i e
    simp only [Option.some.injEq, Prod.mk.injEq] at h
    exact ⟨e, h⟩
  · cases h
theorem zJ_inv {pc : Nat} {off : Int} {L L' : zL} {st st' : List Value} {pc' : Nat} (h : zJ pc off L st = some (pc', L', st')) : (pc : Int) + off = (pc' : Int) ∧ L = L' ∧ st = st' := by
  unfold zJ at h
  split at h
  · rename_i e
    simp only [Option.some.injEq, Prod.mk.injEq] at h
    refine ⟨?_, h.2⟩
    rw [← h.1]
    omega
  · cases h
theorem zbr_inv {len pc : Nat} {off : Int} {t : Bool} {L L' : zL} {st st' : List Value} {pc' : Nat} (h : zbr len pc L st off t = some (pc', L', st')) : len = 3 ∧ L = L' ∧ st = st' ∧ ∃ tgt : Nat, (pc : Int) + off = (tgt : Int) ∧ ((t = true ∧ tgt = pc') ∨ (t = false ∧ pc + 3 = pc')) := by
  unfold zbr at h
  split at h
  · rename_i e
    cases t with
    | true =>
      simp only [if_true, Option.some.injEq, Prod.mk.injEq] at h
      exact ⟨e.1, h.2.1, h.2.2, ((pc : Int) + off).toNat, by omega, Or.inl ⟨rfl, h.1⟩⟩
    | false =>
      simp only [Bool.false_eq_true, if_false, Option.some.injEq, Prod.mk.injEq] at h
      exact ⟨e.1, h.2.1, h.2.2, ((pc : Int) + off).toNat, by omega, Or.inr ⟨rfl, h.1⟩⟩
  · cases h
theorem zII_inv {len pc : Nat} {L L' : zL} {st st' : List Value} {pc' : Nat} {f : Int32 → Int32 → Int32} (h : zII len pc L st f = some (pc', L', st')) : ∃ x y r, st = .int y :: .int x :: r ∧ len = 1 ∧ pc + 1 = pc' ∧ L = L' ∧ .int (f x y) :: r = st' := by
  unfold zII at h
  split at h
  · exact ⟨_, _, _, rfl, zN_inv h⟩
  · cases h
theorem zID_inv {len pc : Nat} {L L' : zL} {st st' : List Value} {pc' : Nat} {f : Int32 → Int32 → Int32} (h : zID len pc L st f = some (pc', L', st')) : ∃ x y r, st = .int y :: .int x :: r ∧ ¬ y = 0 ∧ len = 1 ∧ pc + 1 = pc' ∧ L = L' ∧ .int (f x y) :: r = st' := by
  unfold zID at h
  split at h
  · split at h
    · cases h
    · exact ⟨_, _, _, rfl, by assumption, zN_inv h⟩
  · cases h
theorem zI1_inv {len pc : Nat} {L L' : zL} {st st' : List Value} {pc' : Nat} {f : Int32 → Value} (h : zI1 len pc L st f = some (pc', L', st')) : ∃ x r, st = .int x :: r ∧ len = 1 ∧ pc + 1 = pc' ∧ L = L' ∧ f x :: r = st' := by
  unfold zI1 at h
  split at h
  · exact ⟨_, _, rfl, zN_inv h⟩
  · cases h
theorem zLL_inv {len pc : Nat} {L L' : zL} {st st' : List Value} {pc' : Nat} {f : Int64 → Int64 → Value} (h : zLL len pc L st f = some (pc', L', st')) : ∃ x y r, st = .long y :: .long x :: r ∧ len = 1 ∧ pc + 1 = pc' ∧ L = L' ∧ f x y :: r = st' := by
  unfold zLL at h
  split at h
  · exact ⟨_, _, _, rfl, zN_inv h⟩
  · cases h
theorem zLD_inv {len pc : Nat} {L L' : zL} {st st' : List Value} {pc' : Nat} {f : Int64 → Int64 → Value} (h : zLD len pc L st f = some (pc', L', st')) : ∃ x y r, st = .long y :: .long x :: r ∧ ¬ y = 0 ∧ len = 1 ∧ pc + 1 = pc' ∧ L = L' ∧ f x y :: r = st' := by
  unfold zLD at h
  split at h
  · split at h
    · cases h
    · exact ⟨_, _, _, rfl, by assumption, zN_inv h⟩
  · cases h
theorem zLI_inv {len pc : Nat} {L L' : zL} {st st' : List Value} {pc' : Nat} {f : Int64 → Int32 → Int64} (h : zLI len pc L st f = some (pc', L', st')) : ∃ x y r, st = .int y :: .long x :: r ∧ len = 1 ∧ pc + 1 = pc' ∧ L = L' ∧ .long (f x y) :: r = st' := by
  unfold zLI at h
  split at h
  · exact ⟨_, _, _, rfl, zN_inv h⟩
  · cases h
theorem zL1_inv {len pc : Nat} {L L' : zL} {st st' : List Value} {pc' : Nat} {f : Int64 → Value} (h : zL1 len pc L st f = some (pc', L', st')) : ∃ x r, st = .long x :: r ∧ len = 1 ∧ pc + 1 = pc' ∧ L = L' ∧ f x :: r = st' := by
  unfold zL1 at h
  split at h
  · exact ⟨_, _, rfl, zN_inv h⟩
  · cases h
theorem zld_inv {n len pc : Nat} {L L' : zL} {st st' : List Value} {pc' i : Nat} {k : Value → Bool} (h : zld n len pc L st i k = some (pc', L', st')) : ∃ v, zget L i = some v ∧ k v = true ∧ len = n ∧ pc + n = pc' ∧ L = L' ∧ v :: st = st' := by
  unfold zld at h
  split at h
  · split at h
    · exact ⟨_, by assumption, by assumption, zN_inv h⟩
    · cases h
  · cases h
theorem zs1_inv {nL n len pc : Nat} {L L' : zL} {st st' : List Value} {pc' i : Nat} {k : Value → Bool} (h : zs1 nL n len pc L st i k = some (pc', L', st')) : ∃ v, st = v :: st' ∧ k v = true ∧ i < nL ∧ len = n ∧ pc + n = pc' ∧ zst1 L i v = L' := by
  unfold zs1 at h
  split at h
  · split at h
    · rename_i e
      simp only [Bool.and_eq_true, decide_eq_true_eq] at e
      obtain ⟨h1, h2, h3, rfl⟩ := zN_inv h
      exact ⟨_, rfl, e.1, e.2, h1, h2, h3⟩
    · cases h
  · cases h
theorem zs2_inv {nL n len pc : Nat} {L L' : zL} {st st' : List Value} {pc' i : Nat} (h : zs2 nL n len pc L st i = some (pc', L', st')) : ∃ x, st = .long x :: st' ∧ i + 1 < nL ∧ len = n ∧ pc + n = pc' ∧ zst2 L i (.long x) = L' := by
  unfold zs2 at h
  split at h
  · split at h
    · obtain ⟨h1, h2, h3, rfl⟩ := zN_inv h
      exact ⟨_, rfl, by assumption, h1, h2, h3⟩
    · cases h
  · cases h
theorem zinc_inv {nL len pc : Nat} {L L' : zL} {st st' : List Value} {pc' i : Nat} {n : Int} (h : zinc nL len pc L st i n = some (pc', L', st')) : ∃ x, zget L i = some (.int x) ∧ i < nL ∧ len = 3 ∧ pc + 3 = pc' ∧ zst1 L i (.int (x + Int32.ofInt n)) = L' ∧ st = st' := by
  unfold zinc at h
  split at h
  · split at h
    · exact ⟨_, by assumption, by assumption, zN_inv h⟩
    · cases h
  · cases h
theorem zkI_inv {v : Value} (h : zkI v = true) : ∃ x, v = .int x := by
  cases v <;> first | exact ⟨_, rfl⟩ | cases h
theorem zkL_inv {v : Value} (h : zkL v = true) : ∃ x, v = .long x := by
  cases v <;> first | exact ⟨_, rfl⟩ | cases h
theorem zkA_inv {v : Value} (h : zkA v = true) : v = .null ∨ ∃ x, v = .ref x := by
  cases v <;> first | exact Or.inr ⟨_, rfl⟩ | exact Or.inl rfl | cases h
theorem zas_has {L : zL} {i : Nat} {v : Value} (h : zget L i = some v) : ∃ k : Nat, (zas 0 L)[k]? = some (i, v) := List.mem_iff_getElem?.mp (zas_mem0.mpr h)
section ZA
variable {p : Program} {l : Launch} {e : Env} {R : Room} {s : State} {m : MethodId} {args : Array Value} {below : List Frame} {meth : Method} {c : Code} {H : Heap} {locs : List Loc} {cells slots : Nat} {Q : State → Prop}
variable {cc : ByteArray} {pc len nL : Nat} {ls : Array Slot} {L L' : zL} {st st' : List Value} {pc' : Nat}
theorem zif_ok {q : Jvm.ClassFile.Cond} {off : Int} (hx : p.tables.exec = Jvm.exec) (hb : c.code = cc) (hz : zif len pc L st q off = some (pc', L', st')) (hd : decode cc pc = .ok (.ifCond q off, len)) (hl : zR ls nL L) (kk : ∀ ls' : Array Slot, zR ls' nL L' → W p l e R s m args below meth c H locs cells slots Q (F0 m pc' ls' st')) : W p l e R s m args below meth c H locs cells slots Q (F0 m pc ls st) := by
  unfold zif at hz
  split at hz
  · rename_i x r
    obtain ⟨rfl, rfl, rfl, tgt, ht, h⟩ := zbr_inv hz
    cases q <;> simp only [zcc, decide_eq_true_eq, decide_eq_false_iff_not, Decidable.not_not] at h
    · rcases h with ⟨h1, rfl⟩ | ⟨h1, rfl⟩
      · exact lv_if_eq hx hb hd ht (fun _ => kk ls hl) (fun n => absurd h1 n)
      · exact lv_if_eq hx hb hd ht (fun n => absurd n h1) (fun _ => kk ls hl)
    · rcases h with ⟨h1, rfl⟩ | ⟨h1, rfl⟩
      · exact lv_if_ne hx hb hd ht (fun _ => kk ls hl) (fun n => absurd n h1)
      · exact lv_if_ne hx hb hd ht (fun n => absurd h1 n) (fun _ => kk ls hl)
    · rcases h with ⟨h1, rfl⟩ | ⟨h1, rfl⟩
      · exact lv_if_lt hx hb hd ht (fun _ => kk ls hl) (fun n => absurd h1 n)
      · exact lv_if_lt hx hb hd ht (fun n => absurd n h1) (fun _ => kk ls hl)
    · rcases h with ⟨h1, rfl⟩ | ⟨h1, rfl⟩
      · exact lv_if_ge hx hb hd ht (fun _ => kk ls hl) (fun n => absurd h1 n)
      · exact lv_if_ge hx hb hd ht (fun n => absurd n h1) (fun _ => kk ls hl)
    · rcases h with ⟨h1, rfl⟩ | ⟨h1, rfl⟩
      · exact lv_if_gt hx hb hd ht (fun _ => kk ls hl) (fun n => absurd h1 n)
      · exact lv_if_gt hx hb hd ht (fun n => absurd n h1) (fun _ => kk ls hl)
    · rcases h with ⟨h1, rfl⟩ | ⟨h1, rfl⟩
      · exact lv_if_le hx hb hd ht (fun _ => kk ls hl) (fun n => absurd h1 n)
      · exact lv_if_le hx hb hd ht (fun n => absurd n h1) (fun _ => kk ls hl)
  · cases hz
theorem zic_ok {q : Jvm.ClassFile.Cond} {off : Int} (hx : p.tables.exec = Jvm.exec) (hb : c.code = cc) (hz : zic len pc L st q off = some (pc', L', st')) (hd : decode cc pc = .ok (.if_icmp q off, len)) (hl : zR ls nL L) (kk : ∀ ls' : Array Slot, zR ls' nL L' → W p l e R s m args below meth c H locs cells slots Q (F0 m pc' ls' st')) : W p l e R s m args below meth c H locs cells slots Q (F0 m pc ls st) := by
  unfold zic at hz
  split at hz
  · rename_i y x r
    obtain ⟨rfl, rfl, rfl, tgt, ht, h⟩ := zbr_inv hz
    cases q <;> simp only [zcc, decide_eq_true_eq, decide_eq_false_iff_not, Decidable.not_not] at h
    · rcases h with ⟨h1, rfl⟩ | ⟨h1, rfl⟩
      · exact lv_icmp_eq hx hb hd ht (fun _ => kk ls hl) (fun n => absurd h1 n)
      · exact lv_icmp_eq hx hb hd ht (fun n => absurd n h1) (fun _ => kk ls hl)
    · rcases h with ⟨h1, rfl⟩ | ⟨h1, rfl⟩
      · exact lv_icmp_ne hx hb hd ht (fun _ => kk ls hl) (fun n => absurd n h1)
      · exact lv_icmp_ne hx hb hd ht (fun n => absurd h1 n) (fun _ => kk ls hl)
    · rcases h with ⟨h1, rfl⟩ | ⟨h1, rfl⟩
      · exact lv_icmp_lt hx hb hd ht (fun _ => kk ls hl) (fun n => absurd h1 n)
      · exact lv_icmp_lt hx hb hd ht (fun n => absurd n h1) (fun _ => kk ls hl)
    · rcases h with ⟨h1, rfl⟩ | ⟨h1, rfl⟩
      · exact lv_icmp_ge hx hb hd ht (fun _ => kk ls hl) (fun n => absurd h1 n)
      · exact lv_icmp_ge hx hb hd ht (fun n => absurd n h1) (fun _ => kk ls hl)
    · rcases h with ⟨h1, rfl⟩ | ⟨h1, rfl⟩
      · exact lv_icmp_gt hx hb hd ht (fun _ => kk ls hl) (fun n => absurd h1 n)
      · exact lv_icmp_gt hx hb hd ht (fun n => absurd n h1) (fun _ => kk ls hl)
    · rcases h with ⟨h1, rfl⟩ | ⟨h1, rfl⟩
      · exact lv_icmp_le hx hb hd ht (fun _ => kk ls hl) (fun n => absurd h1 n)
      · exact lv_icmp_le hx hb hd ht (fun n => absurd n h1) (fun _ => kk ls hl)
  · cases hz
theorem znu_ok {off : Int} (hx : p.tables.exec = Jvm.exec) (hb : c.code = cc) (hz : znu len pc L st off true = some (pc', L', st')) (hd : decode cc pc = .ok (.ifnull off, len)) (hl : zR ls nL L) (kk : ∀ ls' : Array Slot, zR ls' nL L' → W p l e R s m args below meth c H locs cells slots Q (F0 m pc' ls' st')) : W p l e R s m args below meth c H locs cells slots Q (F0 m pc ls st) := by
  unfold znu at hz
  split at hz
  · obtain ⟨rfl, rfl, rfl, tgt, ht, h⟩ := zbr_inv hz
    rcases h with ⟨-, rfl⟩ | ⟨h, -⟩
    · exact lv_ifnullN hx hb hd ht (kk ls hl)
    · cases h
  · obtain ⟨rfl, rfl, rfl, tgt, ht, h⟩ := zbr_inv hz
    rcases h with ⟨h, -⟩ | ⟨-, rfl⟩
    · cases h
    · exact lv_ifnull hx hb hd (kk ls hl)
  · cases hz
theorem znn_ok {off : Int} (hx : p.tables.exec = Jvm.exec) (hb : c.code = cc) (hz : znu len pc L st off false = some (pc', L', st')) (hd : decode cc pc = .ok (.ifnonnull off, len)) (hl : zR ls nL L) (kk : ∀ ls' : Array Slot, zR ls' nL L' → W p l e R s m args below meth c H locs cells slots Q (F0 m pc' ls' st')) : W p l e R s m args below meth c H locs cells slots Q (F0 m pc ls st) := by
  unfold znu at hz
  split at hz
  · obtain ⟨rfl, rfl, rfl, tgt, ht, h⟩ := zbr_inv hz
    rcases h with ⟨h, -⟩ | ⟨-, rfl⟩
    · cases h
    · exact lv_ifnonnullN hx hb hd (kk ls hl)
  · obtain ⟨rfl, rfl, rfl, tgt, ht, h⟩ := zbr_inv hz
    rcases h with ⟨-, rfl⟩ | ⟨h, -⟩
    · exact lv_ifnonnull hx hb hd ht (kk ls hl)
    · cases h
  · cases hz
theorem zts_ok {d lo hi : Int} {offs : Array Int} (hx : p.tables.exec = Jvm.exec) (hb : c.code = cc) (hz : zts pc L st d lo hi offs = some (pc', L', st')) (hd : decode cc pc = .ok (.tableswitch d lo hi offs, len)) (hl : zR ls nL L) (kk : ∀ ls' : Array Slot, zR ls' nL L' → W p l e R s m args below meth c H locs cells slots Q (F0 m pc' ls' st')) : W p l e R s m args below meth c H locs cells slots Q (F0 m pc ls st) := by
  unfold zts at hz
  split at hz
  · split at hz
    · obtain ⟨ht, rfl, rfl⟩ := zJ_inv hz
      exact lv_tableOut hx hb hd (by assumption) ht (kk ls hl)
    · rename_i hn
      split at hz
      · obtain ⟨ht, rfl, rfl⟩ := zJ_inv hz
        exact lv_tableIn hx hb hd (fun z => hn (Or.inl z)) (fun z => hn (Or.inr z)) (by assumption) ht (kk ls hl)
      · cases hz
  · cases hz
theorem zls_ok {d : Int} {ps : Array (Int × Int)} (hx : p.tables.exec = Jvm.exec) (hb : c.code = cc) (hz : zls pc L st d ps = some (pc', L', st')) (hd : decode cc pc = .ok (.lookupswitch d ps, len)) (hl : zR ls nL L) (kk : ∀ ls' : Array Slot, zR ls' nL L' → W p l e R s m args below meth c H locs cells slots Q (F0 m pc' ls' st')) : W p l e R s m args below meth c H locs cells slots Q (F0 m pc ls st) := by
  unfold zls at hz
  split at hz
  · split at hz
    · obtain ⟨ht, rfl, rfl⟩ := zJ_inv hz
      exact lv_lookup hx hb hd (by assumption) rfl ht (kk ls hl)
    · cases hz
  · cases hz
theorem zdup2_ok  (hx : p.tables.exec = Jvm.exec) (hb : c.code = cc) (hz : zdup2 len pc L st = some (pc', L', st')) (hd : decode cc pc = .ok (.dup2, len)) (hl : zR ls nL L) (kk : ∀ ls' : Array Slot, zR ls' nL L' → W p l e R s m args below meth c H locs cells slots Q (F0 m pc' ls' st')) : W p l e R s m args below meth c H locs cells slots Q (F0 m pc ls st) := by
  unfold zdup2 at hz
  split at hz
  · split at hz
    · rename_i h
      obtain ⟨rfl, rfl, rfl, rfl⟩ := zN_inv hz
      exact lv_dup2_11 hx hb hd h.1 h.2 (kk ls hl)
    · split at hz
      · rename_i h
        obtain ⟨rfl, rfl, rfl, rfl⟩ := zN_inv hz
        exact lv_dup2_2 hx hb hd h (kk ls hl)
      · cases hz
  · split at hz
    · rename_i h
      obtain ⟨rfl, rfl, rfl, rfl⟩ := zN_inv hz
      exact lv_dup2_2 hx hb hd h (kk ls hl)
    · cases hz
  · cases hz
theorem zdup_ok  (hx : p.tables.exec = Jvm.exec) (hb : c.code = cc) (hz : zdup len pc L st = some (pc', L', st')) (hd : decode cc pc = .ok (.dup, len)) (hl : zR ls nL L) (kk : ∀ ls' : Array Slot, zR ls' nL L' → W p l e R s m args below meth c H locs cells slots Q (F0 m pc' ls' st')) : W p l e R s m args below meth c H locs cells slots Q (F0 m pc ls st) := by
  unfold zdup at hz
  split at hz
  · split at hz
    · rename_i h
      obtain ⟨rfl, rfl, rfl, rfl⟩ := zN_inv hz
      exact lv_dup hx hb hd h (kk ls hl)
    · cases hz
  · cases hz
theorem zpop_ok  (hx : p.tables.exec = Jvm.exec) (hb : c.code = cc) (hz : zpop len pc L st = some (pc', L', st')) (hd : decode cc pc = .ok (.pop, len)) (hl : zR ls nL L) (kk : ∀ ls' : Array Slot, zR ls' nL L' → W p l e R s m args below meth c H locs cells slots Q (F0 m pc' ls' st')) : W p l e R s m args below meth c H locs cells slots Q (F0 m pc ls st) := by
  unfold zpop at hz
  split at hz
  · split at hz
    · rename_i h
      obtain ⟨rfl, rfl, rfl, rfl⟩ := zN_inv hz
      exact lv_pop hx hb hd h (kk ls hl)
    · cases hz
  · cases hz
theorem zA_ok {i : Instr} (hx : p.tables.exec = Jvm.exec) (hb : c.code = cc) (hz : zA nL i len pc L st = some (pc', L', st')) (hd : decode cc pc = .ok (i, len)) (hl : zR ls nL L) (kk : ∀ ls' : Array Slot, zR ls' nL L' → W p l e R s m args below meth c H locs cells slots Q (F0 m pc' ls' st')) : W p l e R s m args below meth c H locs cells slots Q (F0 m pc ls st) := by
  cases i <;> simp only [zA, reduceCtorEq] at hz
  case aconst_null => obtain ⟨rfl, rfl, rfl, rfl⟩ := zN_inv hz; exact lv_null hx hb hd (kk ls hl)
  case iconst n => obtain ⟨rfl, rfl, rfl, rfl⟩ := zN_inv hz; exact lv_iconst hx hb hd rfl (kk ls hl)
  case bipush n => obtain ⟨rfl, rfl, rfl, rfl⟩ := zN_inv hz; exact lv_bipush hx hb hd rfl (kk ls hl)
  case sipush n => obtain ⟨rfl, rfl, rfl, rfl⟩ := zN_inv hz; exact lv_sipush hx hb hd rfl (kk ls hl)
  case lconst n => obtain ⟨rfl, rfl, rfl, rfl⟩ := zN_inv hz; exact lv_lconst hx hb hd rfl (kk ls hl)
  case iload_n k => obtain ⟨v, h1, h2, rfl, rfl, rfl, rfl⟩ := zld_inv hz; obtain ⟨x, rfl⟩ := zkI_inv h2; exact lv_iload_n hx hb hd rfl (hl.get h1) (kk ls hl)
  case iload k => obtain ⟨v, h1, h2, rfl, rfl, rfl, rfl⟩ := zld_inv hz; obtain ⟨x, rfl⟩ := zkI_inv h2; exact lv_iload hx hb hd (hl.get h1) (kk ls hl)
  case lload_n k => obtain ⟨v, h1, h2, rfl, rfl, rfl, rfl⟩ := zld_inv hz; obtain ⟨x, rfl⟩ := zkL_inv h2; exact lv_lload_n hx hb hd rfl (hl.get h1) (kk ls hl)
  case lload k => obtain ⟨v, h1, h2, rfl, rfl, rfl, rfl⟩ := zld_inv hz; obtain ⟨x, rfl⟩ := zkL_inv h2; exact lv_lload hx hb hd (hl.get h1) (kk ls hl)
  case aload_n k => obtain ⟨v, h1, h2, rfl, rfl, rfl, rfl⟩ := zld_inv hz; rcases zkA_inv h2 with rfl | ⟨x, rfl⟩; exact lv_aload_nN hx hb hd rfl (hl.get h1) (kk ls hl); exact lv_aload_n hx hb hd rfl (hl.get h1) (kk ls hl)
  case aload k => obtain ⟨v, h1, h2, rfl, rfl, rfl, rfl⟩ := zld_inv hz; rcases zkA_inv h2 with rfl | ⟨x, rfl⟩; exact lv_aloadN hx hb hd (hl.get h1) (kk ls hl); exact lv_aload hx hb hd (hl.get h1) (kk ls hl)
  case istore_n k => obtain ⟨v, rfl, h2, h3, rfl, rfl, rfl⟩ := zs1_inv hz; obtain ⟨x, rfl⟩ := zkI_inv h2; exact lv_istore_n hx hb hd rfl hl h3 rfl (fun ls' h => kk ls' (zR.st1 h))
  case istore k => obtain ⟨v, rfl, h2, h3, rfl, rfl, rfl⟩ := zs1_inv hz; obtain ⟨x, rfl⟩ := zkI_inv h2; exact lv_istore hx hb hd hl h3 rfl (fun ls' h => kk ls' (zR.st1 h))
  case astore_n k => obtain ⟨v, rfl, h2, h3, rfl, rfl, rfl⟩ := zs1_inv hz; rcases zkA_inv h2 with rfl | ⟨x, rfl⟩; exact lv_astore_nN hx hb hd rfl hl h3 rfl (fun ls' h => kk ls' (zR.st1 h)); exact lv_astore_n hx hb hd rfl hl h3 rfl (fun ls' h => kk ls' (zR.st1 h))
  case astore k => obtain ⟨v, rfl, h2, h3, rfl, rfl, rfl⟩ := zs1_inv hz; rcases zkA_inv h2 with rfl | ⟨x, rfl⟩; exact lv_astoreN hx hb hd hl h3 rfl (fun ls' h => kk ls' (zR.st1 h)); exact lv_astore hx hb hd hl h3 rfl (fun ls' h => kk ls' (zR.st1 h))
  case lstore_n k => obtain ⟨x, rfl, h3, rfl, rfl, rfl⟩ := zs2_inv hz; exact lv_lstore_n hx hb hd rfl hl h3 rfl (fun ls' h => kk ls' (zR.st2 h))
  case lstore k => obtain ⟨x, rfl, h3, rfl, rfl, rfl⟩ := zs2_inv hz; exact lv_lstore hx hb hd hl h3 rfl (fun ls' h => kk ls' (zR.st2 h))
  case iinc k n => obtain ⟨x, h1, h3, rfl, rfl, rfl, rfl⟩ := zinc_inv hz; obtain ⟨j, hj⟩ := zas_has h1; exact lv_iinc hx hb hd hl hj rfl h3 rfl (fun ls' h => kk ls' (zR.st1 h))
  case iadd => obtain ⟨x, y, r, rfl, rfl, rfl, rfl, rfl⟩ := zII_inv hz; exact lv_iadd hx hb hd (kk ls hl)
  case isub => obtain ⟨x, y, r, rfl, rfl, rfl, rfl, rfl⟩ := zII_inv hz; exact lv_isub hx hb hd (kk ls hl)
  case imul => obtain ⟨x, y, r, rfl, rfl, rfl, rfl, rfl⟩ := zII_inv hz; exact lv_imul hx hb hd (kk ls hl)
  case iand => obtain ⟨x, y, r, rfl, rfl, rfl, rfl, rfl⟩ := zII_inv hz; exact lv_iand hx hb hd (kk ls hl)
  case ior => obtain ⟨x, y, r, rfl, rfl, rfl, rfl, rfl⟩ := zII_inv hz; exact lv_ior hx hb hd (kk ls hl)
  case ixor => obtain ⟨x, y, r, rfl, rfl, rfl, rfl, rfl⟩ := zII_inv hz; exact lv_ixor hx hb hd (kk ls hl)
  case ishl => obtain ⟨x, y, r, rfl, rfl, rfl, rfl, rfl⟩ := zII_inv hz; exact lv_ishl hx hb hd (kk ls hl)
  case ishr => obtain ⟨x, y, r, rfl, rfl, rfl, rfl, rfl⟩ := zII_inv hz; exact lv_ishr hx hb hd (kk ls hl)
  case iushr => obtain ⟨x, y, r, rfl, rfl, rfl, rfl, rfl⟩ := zII_inv hz; exact lv_iushr hx hb hd rfl (kk ls hl)
  case idiv => obtain ⟨x, y, r, rfl, h0, rfl, rfl, rfl, rfl⟩ := zID_inv hz; exact lv_idiv hx hb hd h0 (kk ls hl)
  case irem => obtain ⟨x, y, r, rfl, h0, rfl, rfl, rfl, rfl⟩ := zID_inv hz; exact lv_irem hx hb hd h0 (kk ls hl)
  case ineg => obtain ⟨x, r, rfl, rfl, rfl, rfl, rfl⟩ := zI1_inv hz; exact lv_ineg hx hb hd (kk ls hl)
  case i2l => obtain ⟨x, r, rfl, rfl, rfl, rfl, rfl⟩ := zI1_inv hz; exact lv_i2l hx hb hd rfl (kk ls hl)
  case ladd => obtain ⟨x, y, r, rfl, rfl, rfl, rfl, rfl⟩ := zLL_inv hz; exact lv_ladd hx hb hd (kk ls hl)
  case lsub => obtain ⟨x, y, r, rfl, rfl, rfl, rfl, rfl⟩ := zLL_inv hz; exact lv_lsub hx hb hd (kk ls hl)
  case lmul => obtain ⟨x, y, r, rfl, rfl, rfl, rfl, rfl⟩ := zLL_inv hz; exact lv_lmul hx hb hd (kk ls hl)
  case land => obtain ⟨x, y, r, rfl, rfl, rfl, rfl, rfl⟩ := zLL_inv hz; exact lv_land hx hb hd (kk ls hl)
  case lor => obtain ⟨x, y, r, rfl, rfl, rfl, rfl, rfl⟩ := zLL_inv hz; exact lv_lor hx hb hd (kk ls hl)
  case lxor => obtain ⟨x, y, r, rfl, rfl, rfl, rfl, rfl⟩ := zLL_inv hz; exact lv_lxor hx hb hd (kk ls hl)
  case lcmp => obtain ⟨x, y, r, rfl, rfl, rfl, rfl, rfl⟩ := zLL_inv hz; exact W.lcmp hx hb hd (kk ls hl)
  case ldiv => obtain ⟨x, y, r, rfl, h0, rfl, rfl, rfl, rfl⟩ := zLD_inv hz; exact lv_ldiv hx hb hd h0 (kk ls hl)
  case lrem => obtain ⟨x, y, r, rfl, h0, rfl, rfl, rfl, rfl⟩ := zLD_inv hz; exact lv_lrem hx hb hd h0 (kk ls hl)
  case lneg => obtain ⟨x, r, rfl, rfl, rfl, rfl, rfl⟩ := zL1_inv hz; exact lv_lneg hx hb hd (kk ls hl)
  case l2i => obtain ⟨x, r, rfl, rfl, rfl, rfl, rfl⟩ := zL1_inv hz; exact lv_l2i hx hb hd rfl (kk ls hl)
  case lshl => obtain ⟨x, y, r, rfl, rfl, rfl, rfl, rfl⟩ := zLI_inv hz; exact lv_lshl hx hb hd rfl (kk ls hl)
  case lshr => obtain ⟨x, y, r, rfl, rfl, rfl, rfl, rfl⟩ := zLI_inv hz; exact lv_lshr hx hb hd rfl (kk ls hl)
  case lushr => obtain ⟨x, y, r, rfl, rfl, rfl, rfl, rfl⟩ := zLI_inv hz; exact lv_lushr hx hb hd rfl (kk ls hl)
  case dup => exact zdup_ok hx hb hz hd hl kk
  case pop => exact zpop_ok hx hb hz hd hl kk
  case dup2 => exact zdup2_ok hx hb hz hd hl kk
  case ifCond c off => exact zif_ok hx hb hz hd hl kk
  case if_icmp c off => exact zic_ok hx hb hz hd hl kk
  case ifnull off => exact znu_ok hx hb hz hd hl kk
  case ifnonnull off => exact znn_ok hx hb hz hd hl kk
  case goto off => split at hz; rename_i h3; subst h3; obtain ⟨ht, rfl, rfl⟩ := zJ_inv hz; exact lv_goto hx hb hd ht (kk ls hl); cases hz
  case tableswitch d lo hi offs => exact zts_ok hx hb hz hd hl kk
  case lookupswitch d ps => exact zls_ok hx hb hz hd hl kk
end ZA
end
