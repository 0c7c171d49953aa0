-- ===== PART A: goes FIRST, ahead of the names: the tables' words, and 'selects' of the private methods out of them =====
/-- a private method of a class that the tables say can be made, by its rows of tables_1 -/
def lw_okq (q : MethodName × Nat) : Prop := (q.1.cls ≠ "java/lang/invoke/MethodHandle" ∧ q.1.cls ≠ "java/lang/invoke/VarHandle") ∧ Cond.instantiable q.1.cls q.2 ∈ tables_1 ∧ Cond.privateMethod q.1 ∈ tables_1 ∧ Cond.instanceMethod q.1 ∈ tables_1
theorem lw_p0 : lw_okq (⟨"StreetTillTen$Tape", "cutNumber", "(I)V"⟩, 6) := ⟨⟨by decide +kernel, by decide +kernel⟩, List.mem_of_getElem? (i := 25) (by decide +kernel), List.mem_of_getElem? (i := 206) (by decide +kernel), List.mem_of_getElem? (i := 207) (by decide +kernel)⟩
theorem lw_p1 : lw_okq (⟨"StreetTillTen$Tape", "cutWord", "(I)V"⟩, 6) := ⟨⟨by decide +kernel, by decide +kernel⟩, List.mem_of_getElem? (i := 25) (by decide +kernel), List.mem_of_getElem? (i := 213) (by decide +kernel), List.mem_of_getElem? (i := 214) (by decide +kernel)⟩
theorem lw_p2 : lw_okq (⟨"StreetTillTen$Tape", "nameFrom", "(I)I"⟩, 6) := ⟨⟨by decide +kernel, by decide +kernel⟩, List.mem_of_getElem? (i := 25) (by decide +kernel), List.mem_of_getElem? (i := 217) (by decide +kernel), List.mem_of_getElem? (i := 218) (by decide +kernel)⟩
theorem lw_p3 : lw_okq (⟨"StreetTillTen$Tape", "reads", "(Ljava/lang/String;I)Z"⟩, 6) := ⟨⟨by decide +kernel, by decide +kernel⟩, List.mem_of_getElem? (i := 25) (by decide +kernel), List.mem_of_getElem? (i := 222) (by decide +kernel), List.mem_of_getElem? (i := 223) (by decide +kernel)⟩
theorem lw_p4 : lw_okq (⟨"StreetTillTen$Tape", "keyFrom", "(I)I"⟩, 6) := ⟨⟨by decide +kernel, by decide +kernel⟩, List.mem_of_getElem? (i := 25) (by decide +kernel), List.mem_of_getElem? (i := 233) (by decide +kernel), List.mem_of_getElem? (i := 234) (by decide +kernel)⟩
theorem lw_p5 : lw_okq (⟨"StreetTillTen$Reader", "readPart", "(II)V"⟩, 5) := ⟨⟨by decide +kernel, by decide +kernel⟩, List.mem_of_getElem? (i := 165) (by decide +kernel), List.mem_of_getElem? (i := 243) (by decide +kernel), List.mem_of_getElem? (i := 244) (by decide +kernel)⟩
theorem lw_p6 : lw_okq (⟨"StreetTillTen$Reader", "expect", "(I)V"⟩, 5) := ⟨⟨by decide +kernel, by decide +kernel⟩, List.mem_of_getElem? (i := 165) (by decide +kernel), List.mem_of_getElem? (i := 247) (by decide +kernel), List.mem_of_getElem? (i := 248) (by decide +kernel)⟩
theorem lw_p7 : lw_okq (⟨"StreetTillTen$Reader", "next", "()V"⟩, 5) := ⟨⟨by decide +kernel, by decide +kernel⟩, List.mem_of_getElem? (i := 165) (by decide +kernel), List.mem_of_getElem? (i := 251) (by decide +kernel), List.mem_of_getElem? (i := 252) (by decide +kernel)⟩
theorem lw_p8 : lw_okq (⟨"StreetTillTen$Reader", "fail", "()V"⟩, 5) := ⟨⟨by decide +kernel, by decide +kernel⟩, List.mem_of_getElem? (i := 165) (by decide +kernel), List.mem_of_getElem? (i := 255) (by decide +kernel), List.mem_of_getElem? (i := 256) (by decide +kernel)⟩
theorem lw_p9 : lw_okq (⟨"StreetTillTen$Reader", "read", "(II)V"⟩, 5) := ⟨⟨by decide +kernel, by decide +kernel⟩, List.mem_of_getElem? (i := 165) (by decide +kernel), List.mem_of_getElem? (i := 259) (by decide +kernel), List.mem_of_getElem? (i := 260) (by decide +kernel)⟩
theorem lw_p10 : lw_okq (⟨"StreetTillTen$Reader", "readOne", "(I)V"⟩, 5) := ⟨⟨by decide +kernel, by decide +kernel⟩, List.mem_of_getElem? (i := 165) (by decide +kernel), List.mem_of_getElem? (i := 263) (by decide +kernel), List.mem_of_getElem? (i := 264) (by decide +kernel)⟩
theorem lw_p11 : lw_okq (⟨"StreetTillTen$Reader", "opens", "(I)Z"⟩, 5) := ⟨⟨by decide +kernel, by decide +kernel⟩, List.mem_of_getElem? (i := 165) (by decide +kernel), List.mem_of_getElem? (i := 271) (by decide +kernel), List.mem_of_getElem? (i := 272) (by decide +kernel)⟩
theorem lw_p12 : lw_okq (⟨"StreetTillTen", "isHouse", "(I)Z"⟩, 10) := ⟨⟨by decide +kernel, by decide +kernel⟩, List.mem_of_getElem? (i := 17) (by decide +kernel), List.mem_of_getElem? (i := 369) (by decide +kernel), List.mem_of_getElem? (i := 370) (by decide +kernel)⟩
theorem lw_p13 : lw_okq (⟨"StreetTillTen", "setting", "(II)I"⟩, 10) := ⟨⟨by decide +kernel, by decide +kernel⟩, List.mem_of_getElem? (i := 17) (by decide +kernel), List.mem_of_getElem? (i := 377) (by decide +kernel), List.mem_of_getElem? (i := 378) (by decide +kernel)⟩
theorem lw_p14 : lw_okq (⟨"StreetTillTen", "settle", "(II)I"⟩, 10) := ⟨⟨by decide +kernel, by decide +kernel⟩, List.mem_of_getElem? (i := 17) (by decide +kernel), List.mem_of_getElem? (i := 385) (by decide +kernel), List.mem_of_getElem? (i := 386) (by decide +kernel)⟩
theorem lw_p15 : lw_okq (⟨"StreetTillTen", "isTwo", "(II)Z"⟩, 10) := ⟨⟨by decide +kernel, by decide +kernel⟩, List.mem_of_getElem? (i := 17) (by decide +kernel), List.mem_of_getElem? (i := 397) (by decide +kernel), List.mem_of_getElem? (i := 398) (by decide +kernel)⟩
def lw_privs_1 : List (MethodName × Nat) := [(⟨"StreetTillTen$Tape", "cutNumber", "(I)V"⟩, 6), (⟨"StreetTillTen$Tape", "cutWord", "(I)V"⟩, 6), (⟨"StreetTillTen$Tape", "nameFrom", "(I)I"⟩, 6), (⟨"StreetTillTen$Tape", "reads", "(Ljava/lang/String;I)Z"⟩, 6), (⟨"StreetTillTen$Tape", "keyFrom", "(I)I"⟩, 6), (⟨"StreetTillTen$Reader", "readPart", "(II)V"⟩, 5), (⟨"StreetTillTen$Reader", "expect", "(I)V"⟩, 5), (⟨"StreetTillTen$Reader", "next", "()V"⟩, 5), (⟨"StreetTillTen$Reader", "fail", "()V"⟩, 5), (⟨"StreetTillTen$Reader", "read", "(II)V"⟩, 5), (⟨"StreetTillTen$Reader", "readOne", "(I)V"⟩, 5), (⟨"StreetTillTen$Reader", "opens", "(I)Z"⟩, 5), (⟨"StreetTillTen", "isHouse", "(I)Z"⟩, 10), (⟨"StreetTillTen", "setting", "(II)I"⟩, 10), (⟨"StreetTillTen", "settle", "(II)I"⟩, 10), (⟨"StreetTillTen", "isTwo", "(II)Z"⟩, 10)]
theorem lw_r1 : ∀ q ∈ lw_privs_1, lw_okq q := List.forall_mem_cons.mpr ⟨lw_p0, List.forall_mem_cons.mpr ⟨lw_p1, List.forall_mem_cons.mpr ⟨lw_p2, List.forall_mem_cons.mpr ⟨lw_p3, List.forall_mem_cons.mpr ⟨lw_p4, List.forall_mem_cons.mpr ⟨lw_p5, List.forall_mem_cons.mpr ⟨lw_p6, List.forall_mem_cons.mpr ⟨lw_p7, List.forall_mem_cons.mpr ⟨lw_p8, List.forall_mem_cons.mpr ⟨lw_p9, List.forall_mem_cons.mpr ⟨lw_p10, List.forall_mem_cons.mpr ⟨lw_p11, List.forall_mem_cons.mpr ⟨lw_p12, List.forall_mem_cons.mpr ⟨lw_p13, List.forall_mem_cons.mpr ⟨lw_p14, List.forall_mem_cons.mpr ⟨lw_p15, fun _ h => absurd h List.not_mem_nil⟩⟩⟩⟩⟩⟩⟩⟩⟩⟩⟩⟩⟩⟩⟩⟩
theorem lw_p16 : lw_okq (⟨"StreetTillTen$Street", "look", "(II)V"⟩, 9) := ⟨⟨by decide +kernel, by decide +kernel⟩, List.mem_of_getElem? (i := 289) (by decide +kernel), List.mem_of_getElem? (i := 425) (by decide +kernel), List.mem_of_getElem? (i := 426) (by decide +kernel)⟩
theorem lw_p17 : lw_okq (⟨"StreetTillTen", "figure", "(LStreetTillTen$Street;I)I"⟩, 10) := ⟨⟨by decide +kernel, by decide +kernel⟩, List.mem_of_getElem? (i := 17) (by decide +kernel), List.mem_of_getElem? (i := 505) (by decide +kernel), List.mem_of_getElem? (i := 506) (by decide +kernel)⟩
theorem lw_p18 : lw_okq (⟨"StreetTillTen$Circle", "companyOf", "(II)I"⟩, 2) := ⟨⟨by decide +kernel, by decide +kernel⟩, List.mem_of_getElem? (i := 57) (by decide +kernel), List.mem_of_getElem? (i := 522) (by decide +kernel), List.mem_of_getElem? (i := 523) (by decide +kernel)⟩
theorem lw_p19 : lw_okq (⟨"StreetTillTen$Circle", "further", "(I)I"⟩, 2) := ⟨⟨by decide +kernel, by decide +kernel⟩, List.mem_of_getElem? (i := 57) (by decide +kernel), List.mem_of_getElem? (i := 526) (by decide +kernel), List.mem_of_getElem? (i := 527) (by decide +kernel)⟩
theorem lw_p20 : lw_okq (⟨"StreetTillTen$Street", "dinAt", "(I)I"⟩, 9) := ⟨⟨by decide +kernel, by decide +kernel⟩, List.mem_of_getElem? (i := 289) (by decide +kernel), List.mem_of_getElem? (i := 558) (by decide +kernel), List.mem_of_getElem? (i := 559) (by decide +kernel)⟩
theorem lw_p21 : lw_okq (⟨"StreetTillTen", "canChange", "(II)Z"⟩, 10) := ⟨⟨by decide +kernel, by decide +kernel⟩, List.mem_of_getElem? (i := 17) (by decide +kernel), List.mem_of_getElem? (i := 604) (by decide +kernel), List.mem_of_getElem? (i := 605) (by decide +kernel)⟩
theorem lw_p22 : lw_okq (⟨"StreetTillTen", "otherwise", "(LStreetTillTen$Sheet;I)I"⟩, 10) := ⟨⟨by decide +kernel, by decide +kernel⟩, List.mem_of_getElem? (i := 17) (by decide +kernel), List.mem_of_getElem? (i := 636) (by decide +kernel), List.mem_of_getElem? (i := 637) (by decide +kernel)⟩
theorem lw_p23 : lw_okq (⟨"StreetTillTen", "limits", "(LStreetTillTen$Sheet;I)I"⟩, 10) := ⟨⟨by decide +kernel, by decide +kernel⟩, List.mem_of_getElem? (i := 17) (by decide +kernel), List.mem_of_getElem? (i := 644) (by decide +kernel), List.mem_of_getElem? (i := 645) (by decide +kernel)⟩
theorem lw_p24 : lw_okq (⟨"StreetTillTen", "fits", "(LStreetTillTen$Sheet;II)Z"⟩, 10) := ⟨⟨by decide +kernel, by decide +kernel⟩, List.mem_of_getElem? (i := 17) (by decide +kernel), List.mem_of_getElem? (i := 648) (by decide +kernel), List.mem_of_getElem? (i := 649) (by decide +kernel)⟩
theorem lw_p25 : lw_okq (⟨"StreetTillTen", "leastLimit", "(LStreetTillTen$Sheet;I)I"⟩, 10) := ⟨⟨by decide +kernel, by decide +kernel⟩, List.mem_of_getElem? (i := 17) (by decide +kernel), List.mem_of_getElem? (i := 652) (by decide +kernel), List.mem_of_getElem? (i := 653) (by decide +kernel)⟩
theorem lw_p26 : lw_okq (⟨"StreetTillTen", "possible", "(LStreetTillTen$Sheet;II)I"⟩, 10) := ⟨⟨by decide +kernel, by decide +kernel⟩, List.mem_of_getElem? (i := 17) (by decide +kernel), List.mem_of_getElem? (i := 656) (by decide +kernel), List.mem_of_getElem? (i := 657) (by decide +kernel)⟩
theorem lw_p27 : lw_okq (⟨"StreetTillTen", "choices", "(I)I"⟩, 10) := ⟨⟨by decide +kernel, by decide +kernel⟩, List.mem_of_getElem? (i := 17) (by decide +kernel), List.mem_of_getElem? (i := 660) (by decide +kernel), List.mem_of_getElem? (i := 661) (by decide +kernel)⟩
theorem lw_p28 : lw_okq (⟨"StreetTillTen", "suppose", "(III)V"⟩, 10) := ⟨⟨by decide +kernel, by decide +kernel⟩, List.mem_of_getElem? (i := 17) (by decide +kernel), List.mem_of_getElem? (i := 664) (by decide +kernel), List.mem_of_getElem? (i := 665) (by decide +kernel)⟩
theorem lw_p29 : lw_okq (⟨"StreetTillTen", "friendsDrawn", "(II)I"⟩, 10) := ⟨⟨by decide +kernel, by decide +kernel⟩, List.mem_of_getElem? (i := 17) (by decide +kernel), List.mem_of_getElem? (i := 684) (by decide +kernel), List.mem_of_getElem? (i := 685) (by decide +kernel)⟩
theorem lw_p30 : lw_okq (⟨"StreetTillTenModel", "spell", "(IIIIIIIII)V"⟩, 47) := ⟨⟨by decide +kernel, by decide +kernel⟩, List.mem_of_getElem? (i := 747) (by decide +kernel), List.mem_of_getElem? (i := 753) (by decide +kernel), List.mem_of_getElem? (i := 754) (by decide +kernel)⟩
theorem lw_p31 : lw_okq (⟨"StreetTillTenModel", "isHouse", "(I)Z"⟩, 47) := ⟨⟨by decide +kernel, by decide +kernel⟩, List.mem_of_getElem? (i := 747) (by decide +kernel), List.mem_of_getElem? (i := 907) (by decide +kernel), List.mem_of_getElem? (i := 908) (by decide +kernel)⟩
def lw_privs_2 : List (MethodName × Nat) := [(⟨"StreetTillTen$Street", "look", "(II)V"⟩, 9), (⟨"StreetTillTen", "figure", "(LStreetTillTen$Street;I)I"⟩, 10), (⟨"StreetTillTen$Circle", "companyOf", "(II)I"⟩, 2), (⟨"StreetTillTen$Circle", "further", "(I)I"⟩, 2), (⟨"StreetTillTen$Street", "dinAt", "(I)I"⟩, 9), (⟨"StreetTillTen", "canChange", "(II)Z"⟩, 10), (⟨"StreetTillTen", "otherwise", "(LStreetTillTen$Sheet;I)I"⟩, 10), (⟨"StreetTillTen", "limits", "(LStreetTillTen$Sheet;I)I"⟩, 10), (⟨"StreetTillTen", "fits", "(LStreetTillTen$Sheet;II)Z"⟩, 10), (⟨"StreetTillTen", "leastLimit", "(LStreetTillTen$Sheet;I)I"⟩, 10), (⟨"StreetTillTen", "possible", "(LStreetTillTen$Sheet;II)I"⟩, 10), (⟨"StreetTillTen", "choices", "(I)I"⟩, 10), (⟨"StreetTillTen", "suppose", "(III)V"⟩, 10), (⟨"StreetTillTen", "friendsDrawn", "(II)I"⟩, 10), (⟨"StreetTillTenModel", "spell", "(IIIIIIIII)V"⟩, 47), (⟨"StreetTillTenModel", "isHouse", "(I)Z"⟩, 47)]
theorem lw_r2 : ∀ q ∈ lw_privs_2, lw_okq q := List.forall_mem_cons.mpr ⟨lw_p16, List.forall_mem_cons.mpr ⟨lw_p17, List.forall_mem_cons.mpr ⟨lw_p18, List.forall_mem_cons.mpr ⟨lw_p19, List.forall_mem_cons.mpr ⟨lw_p20, List.forall_mem_cons.mpr ⟨lw_p21, List.forall_mem_cons.mpr ⟨lw_p22, List.forall_mem_cons.mpr ⟨lw_p23, List.forall_mem_cons.mpr ⟨lw_p24, List.forall_mem_cons.mpr ⟨lw_p25, List.forall_mem_cons.mpr ⟨lw_p26, List.forall_mem_cons.mpr ⟨lw_p27, List.forall_mem_cons.mpr ⟨lw_p28, List.forall_mem_cons.mpr ⟨lw_p29, List.forall_mem_cons.mpr ⟨lw_p30, List.forall_mem_cons.mpr ⟨lw_p31, fun _ h => absurd h List.not_mem_nil⟩⟩⟩⟩⟩⟩⟩⟩⟩⟩⟩⟩⟩⟩⟩⟩
theorem lw_p32 : lw_okq (⟨"StreetTillTenModel", "strengthOf", "(II)I"⟩, 47) := ⟨⟨by decide +kernel, by decide +kernel⟩, List.mem_of_getElem? (i := 747) (by decide +kernel), List.mem_of_getElem? (i := 925) (by decide +kernel), List.mem_of_getElem? (i := 926) (by decide +kernel)⟩
theorem lw_p33 : lw_okq (⟨"StreetTillTenModel", "seatsOf", "(I)I"⟩, 47) := ⟨⟨by decide +kernel, by decide +kernel⟩, List.mem_of_getElem? (i := 747) (by decide +kernel), List.mem_of_getElem? (i := 929) (by decide +kernel), List.mem_of_getElem? (i := 930) (by decide +kernel)⟩
theorem lw_p34 : lw_okq (⟨"StreetTillTenModel", "soundsOf", "(I)I"⟩, 47) := ⟨⟨by decide +kernel, by decide +kernel⟩, List.mem_of_getElem? (i := 747) (by decide +kernel), List.mem_of_getElem? (i := 933) (by decide +kernel), List.mem_of_getElem? (i := 934) (by decide +kernel)⟩
theorem lw_p35 : lw_okq (⟨"StreetTillTenModel", "says", "(III)I"⟩, 47) := ⟨⟨by decide +kernel, by decide +kernel⟩, List.mem_of_getElem? (i := 747) (by decide +kernel), List.mem_of_getElem? (i := 937) (by decide +kernel), List.mem_of_getElem? (i := 938) (by decide +kernel)⟩
theorem lw_p36 : lw_okq (⟨"StreetTillTenModel", "read", "(II)I"⟩, 47) := ⟨⟨by decide +kernel, by decide +kernel⟩, List.mem_of_getElem? (i := 747) (by decide +kernel), List.mem_of_getElem? (i := 944) (by decide +kernel), List.mem_of_getElem? (i := 945) (by decide +kernel)⟩
theorem lw_p37 : lw_okq (⟨"StreetTillTenModel", "next", "()V"⟩, 47) := ⟨⟨by decide +kernel, by decide +kernel⟩, List.mem_of_getElem? (i := 747) (by decide +kernel), List.mem_of_getElem? (i := 948) (by decide +kernel), List.mem_of_getElem? (i := 949) (by decide +kernel)⟩
theorem lw_p38 : lw_okq (⟨"StreetTillTenModel", "byteAt", "(I)I"⟩, 47) := ⟨⟨by decide +kernel, by decide +kernel⟩, List.mem_of_getElem? (i := 747) (by decide +kernel), List.mem_of_getElem? (i := 952) (by decide +kernel), List.mem_of_getElem? (i := 953) (by decide +kernel)⟩
theorem lw_p39 : lw_okq (⟨"StreetTillTenModel", "isWord", "(IIIIIIII)Z"⟩, 47) := ⟨⟨by decide +kernel, by decide +kernel⟩, List.mem_of_getElem? (i := 747) (by decide +kernel), List.mem_of_getElem? (i := 960) (by decide +kernel), List.mem_of_getElem? (i := 961) (by decide +kernel)⟩
theorem lw_p40 : lw_okq (⟨"StreetTillTenModel", "isLetter", "(II)Z"⟩, 47) := ⟨⟨by decide +kernel, by decide +kernel⟩, List.mem_of_getElem? (i := 747) (by decide +kernel), List.mem_of_getElem? (i := 964) (by decide +kernel), List.mem_of_getElem? (i := 965) (by decide +kernel)⟩
theorem lw_p41 : lw_okq (⟨"StreetTillTenModel", "part", "(Z)I"⟩, 47) := ⟨⟨by decide +kernel, by decide +kernel⟩, List.mem_of_getElem? (i := 747) (by decide +kernel), List.mem_of_getElem? (i := 968) (by decide +kernel), List.mem_of_getElem? (i := 969) (by decide +kernel)⟩
theorem lw_p42 : lw_okq (⟨"StreetTillTenModel", "fail", "()V"⟩, 47) := ⟨⟨by decide +kernel, by decide +kernel⟩, List.mem_of_getElem? (i := 747) (by decide +kernel), List.mem_of_getElem? (i := 972) (by decide +kernel), List.mem_of_getElem? (i := 973) (by decide +kernel)⟩
theorem lw_p43 : lw_okq (⟨"StreetTillTenModel", "either0", "()I"⟩, 47) := ⟨⟨by decide +kernel, by decide +kernel⟩, List.mem_of_getElem? (i := 747) (by decide +kernel), List.mem_of_getElem? (i := 976) (by decide +kernel), List.mem_of_getElem? (i := 977) (by decide +kernel)⟩
theorem lw_p44 : lw_okq (⟨"StreetTillTenModel", "both0", "()I"⟩, 47) := ⟨⟨by decide +kernel, by decide +kernel⟩, List.mem_of_getElem? (i := 747) (by decide +kernel), List.mem_of_getElem? (i := 980) (by decide +kernel), List.mem_of_getElem? (i := 981) (by decide +kernel)⟩
theorem lw_p45 : lw_okq (⟨"StreetTillTenModel", "not0", "()I"⟩, 47) := ⟨⟨by decide +kernel, by decide +kernel⟩, List.mem_of_getElem? (i := 747) (by decide +kernel), List.mem_of_getElem? (i := 984) (by decide +kernel), List.mem_of_getElem? (i := 985) (by decide +kernel)⟩
theorem lw_p46 : lw_okq (⟨"StreetTillTenModel", "opens", "()Z"⟩, 47) := ⟨⟨by decide +kernel, by decide +kernel⟩, List.mem_of_getElem? (i := 747) (by decide +kernel), List.mem_of_getElem? (i := 988) (by decide +kernel), List.mem_of_getElem? (i := 989) (by decide +kernel)⟩
theorem lw_p47 : lw_okq (⟨"StreetTillTenModel", "not1", "()I"⟩, 47) := ⟨⟨by decide +kernel, by decide +kernel⟩, List.mem_of_getElem? (i := 747) (by decide +kernel), List.mem_of_getElem? (i := 992) (by decide +kernel), List.mem_of_getElem? (i := 993) (by decide +kernel)⟩
def lw_privs_3 : List (MethodName × Nat) := [(⟨"StreetTillTenModel", "strengthOf", "(II)I"⟩, 47), (⟨"StreetTillTenModel", "seatsOf", "(I)I"⟩, 47), (⟨"StreetTillTenModel", "soundsOf", "(I)I"⟩, 47), (⟨"StreetTillTenModel", "says", "(III)I"⟩, 47), (⟨"StreetTillTenModel", "read", "(II)I"⟩, 47), (⟨"StreetTillTenModel", "next", "()V"⟩, 47), (⟨"StreetTillTenModel", "byteAt", "(I)I"⟩, 47), (⟨"StreetTillTenModel", "isWord", "(IIIIIIII)Z"⟩, 47), (⟨"StreetTillTenModel", "isLetter", "(II)Z"⟩, 47), (⟨"StreetTillTenModel", "part", "(Z)I"⟩, 47), (⟨"StreetTillTenModel", "fail", "()V"⟩, 47), (⟨"StreetTillTenModel", "either0", "()I"⟩, 47), (⟨"StreetTillTenModel", "both0", "()I"⟩, 47), (⟨"StreetTillTenModel", "not0", "()I"⟩, 47), (⟨"StreetTillTenModel", "opens", "()Z"⟩, 47), (⟨"StreetTillTenModel", "not1", "()I"⟩, 47)]
theorem lw_r3 : ∀ q ∈ lw_privs_3, lw_okq q := List.forall_mem_cons.mpr ⟨lw_p32, List.forall_mem_cons.mpr ⟨lw_p33, List.forall_mem_cons.mpr ⟨lw_p34, List.forall_mem_cons.mpr ⟨lw_p35, List.forall_mem_cons.mpr ⟨lw_p36, List.forall_mem_cons.mpr ⟨lw_p37, List.forall_mem_cons.mpr ⟨lw_p38, List.forall_mem_cons.mpr ⟨lw_p39, List.forall_mem_cons.mpr ⟨lw_p40, List.forall_mem_cons.mpr ⟨lw_p41, List.forall_mem_cons.mpr ⟨lw_p42, List.forall_mem_cons.mpr ⟨lw_p43, List.forall_mem_cons.mpr ⟨lw_p44, List.forall_mem_cons.mpr ⟨lw_p45, List.forall_mem_cons.mpr ⟨lw_p46, List.forall_mem_cons.mpr ⟨lw_p47, fun _ h => absurd h List.not_mem_nil⟩⟩⟩⟩⟩⟩⟩⟩⟩⟩⟩⟩⟩⟩⟩⟩
theorem lw_p48 : lw_okq (⟨"StreetTillTenModel", "not2", "()I"⟩, 47) := ⟨⟨by decide +kernel, by decide +kernel⟩, List.mem_of_getElem? (i := 747) (by decide +kernel), List.mem_of_getElem? (i := 996) (by decide +kernel), List.mem_of_getElem? (i := 997) (by decide +kernel)⟩
theorem lw_p49 : lw_okq (⟨"StreetTillTenModel", "not3", "()I"⟩, 47) := ⟨⟨by decide +kernel, by decide +kernel⟩, List.mem_of_getElem? (i := 747) (by decide +kernel), List.mem_of_getElem? (i := 1000) (by decide +kernel), List.mem_of_getElem? (i := 1001) (by decide +kernel)⟩
theorem lw_p50 : lw_okq (⟨"StreetTillTenModel", "not4", "()I"⟩, 47) := ⟨⟨by decide +kernel, by decide +kernel⟩, List.mem_of_getElem? (i := 747) (by decide +kernel), List.mem_of_getElem? (i := 1004) (by decide +kernel), List.mem_of_getElem? (i := 1005) (by decide +kernel)⟩
theorem lw_p51 : lw_okq (⟨"StreetTillTenModel", "not5", "()I"⟩, 47) := ⟨⟨by decide +kernel, by decide +kernel⟩, List.mem_of_getElem? (i := 747) (by decide +kernel), List.mem_of_getElem? (i := 1008) (by decide +kernel), List.mem_of_getElem? (i := 1009) (by decide +kernel)⟩
theorem lw_p52 : lw_okq (⟨"StreetTillTenModel", "added5", "()I"⟩, 47) := ⟨⟨by decide +kernel, by decide +kernel⟩, List.mem_of_getElem? (i := 747) (by decide +kernel), List.mem_of_getElem? (i := 1012) (by decide +kernel), List.mem_of_getElem? (i := 1013) (by decide +kernel)⟩
theorem lw_p53 : lw_okq (⟨"StreetTillTenModel", "term5", "()I"⟩, 47) := ⟨⟨by decide +kernel, by decide +kernel⟩, List.mem_of_getElem? (i := 747) (by decide +kernel), List.mem_of_getElem? (i := 1016) (by decide +kernel), List.mem_of_getElem? (i := 1017) (by decide +kernel)⟩
theorem lw_p54 : lw_okq (⟨"StreetTillTenModel", "atom5", "()I"⟩, 47) := ⟨⟨by decide +kernel, by decide +kernel⟩, List.mem_of_getElem? (i := 747) (by decide +kernel), List.mem_of_getElem? (i := 1020) (by decide +kernel), List.mem_of_getElem? (i := 1021) (by decide +kernel)⟩
theorem lw_p55 : lw_okq (⟨"StreetTillTenModel", "isSign", "(I)Z"⟩, 47) := ⟨⟨by decide +kernel, by decide +kernel⟩, List.mem_of_getElem? (i := 747) (by decide +kernel), List.mem_of_getElem? (i := 1024) (by decide +kernel), List.mem_of_getElem? (i := 1025) (by decide +kernel)⟩
theorem lw_p56 : lw_okq (⟨"StreetTillTenModel", "name", "()I"⟩, 47) := ⟨⟨by decide +kernel, by decide +kernel⟩, List.mem_of_getElem? (i := 747) (by decide +kernel), List.mem_of_getElem? (i := 1028) (by decide +kernel), List.mem_of_getElem? (i := 1029) (by decide +kernel)⟩
theorem lw_p57 : lw_okq (⟨"StreetTillTenModel", "added4", "()I"⟩, 47) := ⟨⟨by decide +kernel, by decide +kernel⟩, List.mem_of_getElem? (i := 747) (by decide +kernel), List.mem_of_getElem? (i := 1034) (by decide +kernel), List.mem_of_getElem? (i := 1035) (by decide +kernel)⟩
theorem lw_p58 : lw_okq (⟨"StreetTillTenModel", "term4", "()I"⟩, 47) := ⟨⟨by decide +kernel, by decide +kernel⟩, List.mem_of_getElem? (i := 747) (by decide +kernel), List.mem_of_getElem? (i := 1038) (by decide +kernel), List.mem_of_getElem? (i := 1039) (by decide +kernel)⟩
theorem lw_p59 : lw_okq (⟨"StreetTillTenModel", "atom4", "()I"⟩, 47) := ⟨⟨by decide +kernel, by decide +kernel⟩, List.mem_of_getElem? (i := 747) (by decide +kernel), List.mem_of_getElem? (i := 1042) (by decide +kernel), List.mem_of_getElem? (i := 1043) (by decide +kernel)⟩
theorem lw_p60 : lw_okq (⟨"StreetTillTenModel", "either5", "()I"⟩, 47) := ⟨⟨by decide +kernel, by decide +kernel⟩, List.mem_of_getElem? (i := 747) (by decide +kernel), List.mem_of_getElem? (i := 1046) (by decide +kernel), List.mem_of_getElem? (i := 1047) (by decide +kernel)⟩
theorem lw_p61 : lw_okq (⟨"StreetTillTenModel", "both5", "()I"⟩, 47) := ⟨⟨by decide +kernel, by decide +kernel⟩, List.mem_of_getElem? (i := 747) (by decide +kernel), List.mem_of_getElem? (i := 1050) (by decide +kernel), List.mem_of_getElem? (i := 1051) (by decide +kernel)⟩
theorem lw_p62 : lw_okq (⟨"StreetTillTenModel", "added3", "()I"⟩, 47) := ⟨⟨by decide +kernel, by decide +kernel⟩, List.mem_of_getElem? (i := 747) (by decide +kernel), List.mem_of_getElem? (i := 1054) (by decide +kernel), List.mem_of_getElem? (i := 1055) (by decide +kernel)⟩
theorem lw_p63 : lw_okq (⟨"StreetTillTenModel", "term3", "()I"⟩, 47) := ⟨⟨by decide +kernel, by decide +kernel⟩, List.mem_of_getElem? (i := 747) (by decide +kernel), List.mem_of_getElem? (i := 1058) (by decide +kernel), List.mem_of_getElem? (i := 1059) (by decide +kernel)⟩
def lw_privs_4 : List (MethodName × Nat) := [(⟨"StreetTillTenModel", "not2", "()I"⟩, 47), (⟨"StreetTillTenModel", "not3", "()I"⟩, 47), (⟨"StreetTillTenModel", "not4", "()I"⟩, 47), (⟨"StreetTillTenModel", "not5", "()I"⟩, 47), (⟨"StreetTillTenModel", "added5", "()I"⟩, 47), (⟨"StreetTillTenModel", "term5", "()I"⟩, 47), (⟨"StreetTillTenModel", "atom5", "()I"⟩, 47), (⟨"StreetTillTenModel", "isSign", "(I)Z"⟩, 47), (⟨"StreetTillTenModel", "name", "()I"⟩, 47), (⟨"StreetTillTenModel", "added4", "()I"⟩, 47), (⟨"StreetTillTenModel", "term4", "()I"⟩, 47), (⟨"StreetTillTenModel", "atom4", "()I"⟩, 47), (⟨"StreetTillTenModel", "either5", "()I"⟩, 47), (⟨"StreetTillTenModel", "both5", "()I"⟩, 47), (⟨"StreetTillTenModel", "added3", "()I"⟩, 47), (⟨"StreetTillTenModel", "term3", "()I"⟩, 47)]
theorem lw_r4 : ∀ q ∈ lw_privs_4, lw_okq q := List.forall_mem_cons.mpr ⟨lw_p48, List.forall_mem_cons.mpr ⟨lw_p49, List.forall_mem_cons.mpr ⟨lw_p50, List.forall_mem_cons.mpr ⟨lw_p51, List.forall_mem_cons.mpr ⟨lw_p52, List.forall_mem_cons.mpr ⟨lw_p53, List.forall_mem_cons.mpr ⟨lw_p54, List.forall_mem_cons.mpr ⟨lw_p55, List.forall_mem_cons.mpr ⟨lw_p56, List.forall_mem_cons.mpr ⟨lw_p57, List.forall_mem_cons.mpr ⟨lw_p58, List.forall_mem_cons.mpr ⟨lw_p59, List.forall_mem_cons.mpr ⟨lw_p60, List.forall_mem_cons.mpr ⟨lw_p61, List.forall_mem_cons.mpr ⟨lw_p62, List.forall_mem_cons.mpr ⟨lw_p63, fun _ h => absurd h List.not_mem_nil⟩⟩⟩⟩⟩⟩⟩⟩⟩⟩⟩⟩⟩⟩⟩⟩
theorem lw_p64 : lw_okq (⟨"StreetTillTenModel", "atom3", "()I"⟩, 47) := ⟨⟨by decide +kernel, by decide +kernel⟩, List.mem_of_getElem? (i := 747) (by decide +kernel), List.mem_of_getElem? (i := 1062) (by decide +kernel), List.mem_of_getElem? (i := 1063) (by decide +kernel)⟩
theorem lw_p65 : lw_okq (⟨"StreetTillTenModel", "either4", "()I"⟩, 47) := ⟨⟨by decide +kernel, by decide +kernel⟩, List.mem_of_getElem? (i := 747) (by decide +kernel), List.mem_of_getElem? (i := 1066) (by decide +kernel), List.mem_of_getElem? (i := 1067) (by decide +kernel)⟩
theorem lw_p66 : lw_okq (⟨"StreetTillTenModel", "both4", "()I"⟩, 47) := ⟨⟨by decide +kernel, by decide +kernel⟩, List.mem_of_getElem? (i := 747) (by decide +kernel), List.mem_of_getElem? (i := 1070) (by decide +kernel), List.mem_of_getElem? (i := 1071) (by decide +kernel)⟩
theorem lw_p67 : lw_okq (⟨"StreetTillTenModel", "added2", "()I"⟩, 47) := ⟨⟨by decide +kernel, by decide +kernel⟩, List.mem_of_getElem? (i := 747) (by decide +kernel), List.mem_of_getElem? (i := 1074) (by decide +kernel), List.mem_of_getElem? (i := 1075) (by decide +kernel)⟩
theorem lw_p68 : lw_okq (⟨"StreetTillTenModel", "term2", "()I"⟩, 47) := ⟨⟨by decide +kernel, by decide +kernel⟩, List.mem_of_getElem? (i := 747) (by decide +kernel), List.mem_of_getElem? (i := 1078) (by decide +kernel), List.mem_of_getElem? (i := 1079) (by decide +kernel)⟩
theorem lw_p69 : lw_okq (⟨"StreetTillTenModel", "atom2", "()I"⟩, 47) := ⟨⟨by decide +kernel, by decide +kernel⟩, List.mem_of_getElem? (i := 747) (by decide +kernel), List.mem_of_getElem? (i := 1082) (by decide +kernel), List.mem_of_getElem? (i := 1083) (by decide +kernel)⟩
theorem lw_p70 : lw_okq (⟨"StreetTillTenModel", "either3", "()I"⟩, 47) := ⟨⟨by decide +kernel, by decide +kernel⟩, List.mem_of_getElem? (i := 747) (by decide +kernel), List.mem_of_getElem? (i := 1086) (by decide +kernel), List.mem_of_getElem? (i := 1087) (by decide +kernel)⟩
theorem lw_p71 : lw_okq (⟨"StreetTillTenModel", "both3", "()I"⟩, 47) := ⟨⟨by decide +kernel, by decide +kernel⟩, List.mem_of_getElem? (i := 747) (by decide +kernel), List.mem_of_getElem? (i := 1090) (by decide +kernel), List.mem_of_getElem? (i := 1091) (by decide +kernel)⟩
theorem lw_p72 : lw_okq (⟨"StreetTillTenModel", "added1", "()I"⟩, 47) := ⟨⟨by decide +kernel, by decide +kernel⟩, List.mem_of_getElem? (i := 747) (by decide +kernel), List.mem_of_getElem? (i := 1094) (by decide +kernel), List.mem_of_getElem? (i := 1095) (by decide +kernel)⟩
theorem lw_p73 : lw_okq (⟨"StreetTillTenModel", "term1", "()I"⟩, 47) := ⟨⟨by decide +kernel, by decide +kernel⟩, List.mem_of_getElem? (i := 747) (by decide +kernel), List.mem_of_getElem? (i := 1098) (by decide +kernel), List.mem_of_getElem? (i := 1099) (by decide +kernel)⟩
theorem lw_p74 : lw_okq (⟨"StreetTillTenModel", "atom1", "()I"⟩, 47) := ⟨⟨by decide +kernel, by decide +kernel⟩, List.mem_of_getElem? (i := 747) (by decide +kernel), List.mem_of_getElem? (i := 1102) (by decide +kernel), List.mem_of_getElem? (i := 1103) (by decide +kernel)⟩
theorem lw_p75 : lw_okq (⟨"StreetTillTenModel", "either2", "()I"⟩, 47) := ⟨⟨by decide +kernel, by decide +kernel⟩, List.mem_of_getElem? (i := 747) (by decide +kernel), List.mem_of_getElem? (i := 1106) (by decide +kernel), List.mem_of_getElem? (i := 1107) (by decide +kernel)⟩
theorem lw_p76 : lw_okq (⟨"StreetTillTenModel", "both2", "()I"⟩, 47) := ⟨⟨by decide +kernel, by decide +kernel⟩, List.mem_of_getElem? (i := 747) (by decide +kernel), List.mem_of_getElem? (i := 1110) (by decide +kernel), List.mem_of_getElem? (i := 1111) (by decide +kernel)⟩
theorem lw_p77 : lw_okq (⟨"StreetTillTenModel", "added0", "()I"⟩, 47) := ⟨⟨by decide +kernel, by decide +kernel⟩, List.mem_of_getElem? (i := 747) (by decide +kernel), List.mem_of_getElem? (i := 1114) (by decide +kernel), List.mem_of_getElem? (i := 1115) (by decide +kernel)⟩
theorem lw_p78 : lw_okq (⟨"StreetTillTenModel", "term0", "()I"⟩, 47) := ⟨⟨by decide +kernel, by decide +kernel⟩, List.mem_of_getElem? (i := 747) (by decide +kernel), List.mem_of_getElem? (i := 1118) (by decide +kernel), List.mem_of_getElem? (i := 1119) (by decide +kernel)⟩
theorem lw_p79 : lw_okq (⟨"StreetTillTenModel", "atom0", "()I"⟩, 47) := ⟨⟨by decide +kernel, by decide +kernel⟩, List.mem_of_getElem? (i := 747) (by decide +kernel), List.mem_of_getElem? (i := 1122) (by decide +kernel), List.mem_of_getElem? (i := 1123) (by decide +kernel)⟩
def lw_privs_5 : List (MethodName × Nat) := [(⟨"StreetTillTenModel", "atom3", "()I"⟩, 47), (⟨"StreetTillTenModel", "either4", "()I"⟩, 47), (⟨"StreetTillTenModel", "both4", "()I"⟩, 47), (⟨"StreetTillTenModel", "added2", "()I"⟩, 47), (⟨"StreetTillTenModel", "term2", "()I"⟩, 47), (⟨"StreetTillTenModel", "atom2", "()I"⟩, 47), (⟨"StreetTillTenModel", "either3", "()I"⟩, 47), (⟨"StreetTillTenModel", "both3", "()I"⟩, 47), (⟨"StreetTillTenModel", "added1", "()I"⟩, 47), (⟨"StreetTillTenModel", "term1", "()I"⟩, 47), (⟨"StreetTillTenModel", "atom1", "()I"⟩, 47), (⟨"StreetTillTenModel", "either2", "()I"⟩, 47), (⟨"StreetTillTenModel", "both2", "()I"⟩, 47), (⟨"StreetTillTenModel", "added0", "()I"⟩, 47), (⟨"StreetTillTenModel", "term0", "()I"⟩, 47), (⟨"StreetTillTenModel", "atom0", "()I"⟩, 47)]
theorem lw_r5 : ∀ q ∈ lw_privs_5, lw_okq q := List.forall_mem_cons.mpr ⟨lw_p64, List.forall_mem_cons.mpr ⟨lw_p65, List.forall_mem_cons.mpr ⟨lw_p66, List.forall_mem_cons.mpr ⟨lw_p67, List.forall_mem_cons.mpr ⟨lw_p68, List.forall_mem_cons.mpr ⟨lw_p69, List.forall_mem_cons.mpr ⟨lw_p70, List.forall_mem_cons.mpr ⟨lw_p71, List.forall_mem_cons.mpr ⟨lw_p72, List.forall_mem_cons.mpr ⟨lw_p73, List.forall_mem_cons.mpr ⟨lw_p74, List.forall_mem_cons.mpr ⟨lw_p75, List.forall_mem_cons.mpr ⟨lw_p76, List.forall_mem_cons.mpr ⟨lw_p77, List.forall_mem_cons.mpr ⟨lw_p78, List.forall_mem_cons.mpr ⟨lw_p79, fun _ h => absurd h List.not_mem_nil⟩⟩⟩⟩⟩⟩⟩⟩⟩⟩⟩⟩⟩⟩⟩⟩
theorem lw_p80 : lw_okq (⟨"StreetTillTenModel", "either1", "()I"⟩, 47) := ⟨⟨by decide +kernel, by decide +kernel⟩, List.mem_of_getElem? (i := 747) (by decide +kernel), List.mem_of_getElem? (i := 1126) (by decide +kernel), List.mem_of_getElem? (i := 1127) (by decide +kernel)⟩
theorem lw_p81 : lw_okq (⟨"StreetTillTenModel", "both1", "()I"⟩, 47) := ⟨⟨by decide +kernel, by decide +kernel⟩, List.mem_of_getElem? (i := 747) (by decide +kernel), List.mem_of_getElem? (i := 1130) (by decide +kernel), List.mem_of_getElem? (i := 1131) (by decide +kernel)⟩
theorem lw_p82 : lw_okq (⟨"StreetTillTenModel", "knows", "(II)Z"⟩, 47) := ⟨⟨by decide +kernel, by decide +kernel⟩, List.mem_of_getElem? (i := 747) (by decide +kernel), List.mem_of_getElem? (i := 1137) (by decide +kernel), List.mem_of_getElem? (i := 1138) (by decide +kernel)⟩
theorem lw_p83 : lw_okq (⟨"StreetTillTenModel", "lays", "(III)V"⟩, 47) := ⟨⟨by decide +kernel, by decide +kernel⟩, List.mem_of_getElem? (i := 747) (by decide +kernel), List.mem_of_getElem? (i := 1141) (by decide +kernel), List.mem_of_getElem? (i := 1142) (by decide +kernel)⟩
theorem lw_p84 : lw_okq (⟨"StreetTillTenModel", "binds", "(III)V"⟩, 47) := ⟨⟨by decide +kernel, by decide +kernel⟩, List.mem_of_getElem? (i := 747) (by decide +kernel), List.mem_of_getElem? (i := 1150) (by decide +kernel), List.mem_of_getElem? (i := 1151) (by decide +kernel)⟩
theorem lw_p85 : lw_okq (⟨"StreetTillTenModel", "areTwo", "(II)Z"⟩, 47) := ⟨⟨by decide +kernel, by decide +kernel⟩, List.mem_of_getElem? (i := 747) (by decide +kernel), List.mem_of_getElem? (i := 1158) (by decide +kernel), List.mem_of_getElem? (i := 1159) (by decide +kernel)⟩
theorem lw_p86 : lw_okq (⟨"StreetTillTenModel", "meetsOf", "(II)I"⟩, 47) := ⟨⟨by decide +kernel, by decide +kernel⟩, List.mem_of_getElem? (i := 747) (by decide +kernel), List.mem_of_getElem? (i := 1180) (by decide +kernel), List.mem_of_getElem? (i := 1181) (by decide +kernel)⟩
theorem lw_p87 : lw_okq (⟨"StreetTillTenModel", "fadesOf", "(II)I"⟩, 47) := ⟨⟨by decide +kernel, by decide +kernel⟩, List.mem_of_getElem? (i := 747) (by decide +kernel), List.mem_of_getElem? (i := 1184) (by decide +kernel), List.mem_of_getElem? (i := 1185) (by decide +kernel)⟩
theorem lw_p88 : lw_okq (⟨"StreetTillTenModel", "feasts", "()V"⟩, 47) := ⟨⟨by decide +kernel, by decide +kernel⟩, List.mem_of_getElem? (i := 747) (by decide +kernel), List.mem_of_getElem? (i := 1192) (by decide +kernel), List.mem_of_getElem? (i := 1193) (by decide +kernel)⟩
theorem lw_p89 : lw_okq (⟨"StreetTillTenModel", "friends", "()I"⟩, 47) := ⟨⟨by decide +kernel, by decide +kernel⟩, List.mem_of_getElem? (i := 747) (by decide +kernel), List.mem_of_getElem? (i := 1196) (by decide +kernel), List.mem_of_getElem? (i := 1197) (by decide +kernel)⟩
theorem lw_p90 : lw_okq (⟨"StreetTillTenModel", "fades", "()V"⟩, 47) := ⟨⟨by decide +kernel, by decide +kernel⟩, List.mem_of_getElem? (i := 747) (by decide +kernel), List.mem_of_getElem? (i := 1204) (by decide +kernel), List.mem_of_getElem? (i := 1205) (by decide +kernel)⟩
theorem lw_p91 : lw_okq (⟨"StreetTillTenModel", "quietest", "()I"⟩, 47) := ⟨⟨by decide +kernel, by decide +kernel⟩, List.mem_of_getElem? (i := 747) (by decide +kernel), List.mem_of_getElem? (i := 1212) (by decide +kernel), List.mem_of_getElem? (i := 1213) (by decide +kernel)⟩
theorem lw_p92 : lw_okq (⟨"StreetTillTenModel", "tellsOf", "(I)I"⟩, 47) := ⟨⟨by decide +kernel, by decide +kernel⟩, List.mem_of_getElem? (i := 747) (by decide +kernel), List.mem_of_getElem? (i := 1216) (by decide +kernel), List.mem_of_getElem? (i := 1217) (by decide +kernel)⟩
theorem lw_p93 : lw_okq (⟨"StreetTillTenModel", "waysAll", "()V"⟩, 47) := ⟨⟨by decide +kernel, by decide +kernel⟩, List.mem_of_getElem? (i := 747) (by decide +kernel), List.mem_of_getElem? (i := 1220) (by decide +kernel), List.mem_of_getElem? (i := 1221) (by decide +kernel)⟩
theorem lw_p94 : lw_okq (⟨"StreetTillTenModel", "companies", "()I"⟩, 47) := ⟨⟨by decide +kernel, by decide +kernel⟩, List.mem_of_getElem? (i := 747) (by decide +kernel), List.mem_of_getElem? (i := 1224) (by decide +kernel), List.mem_of_getElem? (i := 1225) (by decide +kernel)⟩
theorem lw_p95 : lw_okq (⟨"StreetTillTenModel", "largest", "()I"⟩, 47) := ⟨⟨by decide +kernel, by decide +kernel⟩, List.mem_of_getElem? (i := 747) (by decide +kernel), List.mem_of_getElem? (i := 1228) (by decide +kernel), List.mem_of_getElem? (i := 1229) (by decide +kernel)⟩
def lw_privs_6 : List (MethodName × Nat) := [(⟨"StreetTillTenModel", "either1", "()I"⟩, 47), (⟨"StreetTillTenModel", "both1", "()I"⟩, 47), (⟨"StreetTillTenModel", "knows", "(II)Z"⟩, 47), (⟨"StreetTillTenModel", "lays", "(III)V"⟩, 47), (⟨"StreetTillTenModel", "binds", "(III)V"⟩, 47), (⟨"StreetTillTenModel", "areTwo", "(II)Z"⟩, 47), (⟨"StreetTillTenModel", "meetsOf", "(II)I"⟩, 47), (⟨"StreetTillTenModel", "fadesOf", "(II)I"⟩, 47), (⟨"StreetTillTenModel", "feasts", "()V"⟩, 47), (⟨"StreetTillTenModel", "friends", "()I"⟩, 47), (⟨"StreetTillTenModel", "fades", "()V"⟩, 47), (⟨"StreetTillTenModel", "quietest", "()I"⟩, 47), (⟨"StreetTillTenModel", "tellsOf", "(I)I"⟩, 47), (⟨"StreetTillTenModel", "waysAll", "()V"⟩, 47), (⟨"StreetTillTenModel", "companies", "()I"⟩, 47), (⟨"StreetTillTenModel", "largest", "()I"⟩, 47)]
theorem lw_r6 : ∀ q ∈ lw_privs_6, lw_okq q := List.forall_mem_cons.mpr ⟨lw_p80, List.forall_mem_cons.mpr ⟨lw_p81, List.forall_mem_cons.mpr ⟨lw_p82, List.forall_mem_cons.mpr ⟨lw_p83, List.forall_mem_cons.mpr ⟨lw_p84, List.forall_mem_cons.mpr ⟨lw_p85, List.forall_mem_cons.mpr ⟨lw_p86, List.forall_mem_cons.mpr ⟨lw_p87, List.forall_mem_cons.mpr ⟨lw_p88, List.forall_mem_cons.mpr ⟨lw_p89, List.forall_mem_cons.mpr ⟨lw_p90, List.forall_mem_cons.mpr ⟨lw_p91, List.forall_mem_cons.mpr ⟨lw_p92, List.forall_mem_cons.mpr ⟨lw_p93, List.forall_mem_cons.mpr ⟨lw_p94, List.forall_mem_cons.mpr ⟨lw_p95, fun _ h => absurd h List.not_mem_nil⟩⟩⟩⟩⟩⟩⟩⟩⟩⟩⟩⟩⟩⟩⟩⟩
theorem lw_p96 : lw_okq (⟨"StreetTillTenModel", "strengthAll", "()I"⟩, 47) := ⟨⟨by decide +kernel, by decide +kernel⟩, List.mem_of_getElem? (i := 747) (by decide +kernel), List.mem_of_getElem? (i := 1232) (by decide +kernel), List.mem_of_getElem? (i := 1233) (by decide +kernel)⟩
theorem lw_p97 : lw_okq (⟨"StreetTillTenModel", "longest", "(I)I"⟩, 47) := ⟨⟨by decide +kernel, by decide +kernel⟩, List.mem_of_getElem? (i := 747) (by decide +kernel), List.mem_of_getElem? (i := 1236) (by decide +kernel), List.mem_of_getElem? (i := 1237) (by decide +kernel)⟩
theorem lw_p98 : lw_okq (⟨"StreetTillTenModel", "laysAside", "()V"⟩, 47) := ⟨⟨by decide +kernel, by decide +kernel⟩, List.mem_of_getElem? (i := 747) (by decide +kernel), List.mem_of_getElem? (i := 1250) (by decide +kernel), List.mem_of_getElem? (i := 1251) (by decide +kernel)⟩
theorem lw_p99 : lw_okq (⟨"StreetTillTenModel", "lives", "(I)V"⟩, 47) := ⟨⟨by decide +kernel, by decide +kernel⟩, List.mem_of_getElem? (i := 747) (by decide +kernel), List.mem_of_getElem? (i := 1254) (by decide +kernel), List.mem_of_getElem? (i := 1255) (by decide +kernel)⟩
theorem lw_p100 : lw_okq (⟨"StreetTillTenModel", "laysBack", "()V"⟩, 47) := ⟨⟨by decide +kernel, by decide +kernel⟩, List.mem_of_getElem? (i := 747) (by decide +kernel), List.mem_of_getElem? (i := 1258) (by decide +kernel), List.mem_of_getElem? (i := 1259) (by decide +kernel)⟩
theorem lw_p101 : lw_okq (⟨"StreetTillTenModel", "friendsBehind", "(I)I"⟩, 47) := ⟨⟨by decide +kernel, by decide +kernel⟩, List.mem_of_getElem? (i := 747) (by decide +kernel), List.mem_of_getElem? (i := 1271) (by decide +kernel), List.mem_of_getElem? (i := 1272) (by decide +kernel)⟩
theorem lw_p102 : lw_okq (⟨"StreetTillTenModel", "clears", "()V"⟩, 47) := ⟨⟨by decide +kernel, by decide +kernel⟩, List.mem_of_getElem? (i := 747) (by decide +kernel), List.mem_of_getElem? (i := 1284) (by decide +kernel), List.mem_of_getElem? (i := 1285) (by decide +kernel)⟩
theorem lw_p103 : lw_okq (⟨"StreetTillTenModel", "sitsAgain", "()V"⟩, 47) := ⟨⟨by decide +kernel, by decide +kernel⟩, List.mem_of_getElem? (i := 747) (by decide +kernel), List.mem_of_getElem? (i := 1288) (by decide +kernel), List.mem_of_getElem? (i := 1289) (by decide +kernel)⟩
theorem lw_p104 : lw_okq (⟨"StreetTillTenModel", "unlike", "(II)I"⟩, 47) := ⟨⟨by decide +kernel, by decide +kernel⟩, List.mem_of_getElem? (i := 747) (by decide +kernel), List.mem_of_getElem? (i := 1308) (by decide +kernel), List.mem_of_getElem? (i := 1309) (by decide +kernel)⟩
theorem lw_p105 : lw_okq (⟨"StreetTillTenModel", "limitsBy", "(IIZ)I"⟩, 47) := ⟨⟨by decide +kernel, by decide +kernel⟩, List.mem_of_getElem? (i := 747) (by decide +kernel), List.mem_of_getElem? (i := 1312) (by decide +kernel), List.mem_of_getElem? (i := 1313) (by decide +kernel)⟩
theorem lw_p106 : lw_okq (⟨"StreetTillTenModel", "friendsBy", "(II)I"⟩, 47) := ⟨⟨by decide +kernel, by decide +kernel⟩, List.mem_of_getElem? (i := 747) (by decide +kernel), List.mem_of_getElem? (i := 1328) (by decide +kernel), List.mem_of_getElem? (i := 1329) (by decide +kernel)⟩
def lw_privs_7 : List (MethodName × Nat) := [(⟨"StreetTillTenModel", "strengthAll", "()I"⟩, 47), (⟨"StreetTillTenModel", "longest", "(I)I"⟩, 47), (⟨"StreetTillTenModel", "laysAside", "()V"⟩, 47), (⟨"StreetTillTenModel", "lives", "(I)V"⟩, 47), (⟨"StreetTillTenModel", "laysBack", "()V"⟩, 47), (⟨"StreetTillTenModel", "friendsBehind", "(I)I"⟩, 47), (⟨"StreetTillTenModel", "clears", "()V"⟩, 47), (⟨"StreetTillTenModel", "sitsAgain", "()V"⟩, 47), (⟨"StreetTillTenModel", "unlike", "(II)I"⟩, 47), (⟨"StreetTillTenModel", "limitsBy", "(IIZ)I"⟩, 47), (⟨"StreetTillTenModel", "friendsBy", "(II)I"⟩, 47)]
theorem lw_r7 : ∀ q ∈ lw_privs_7, lw_okq q := List.forall_mem_cons.mpr ⟨lw_p96, List.forall_mem_cons.mpr ⟨lw_p97, List.forall_mem_cons.mpr ⟨lw_p98, List.forall_mem_cons.mpr ⟨lw_p99, List.forall_mem_cons.mpr ⟨lw_p100, List.forall_mem_cons.mpr ⟨lw_p101, List.forall_mem_cons.mpr ⟨lw_p102, List.forall_mem_cons.mpr ⟨lw_p103, List.forall_mem_cons.mpr ⟨lw_p104, List.forall_mem_cons.mpr ⟨lw_p105, List.forall_mem_cons.mpr ⟨lw_p106, fun _ h => absurd h List.not_mem_nil⟩⟩⟩⟩⟩⟩⟩⟩⟩⟩⟩
def lw_privs : List (MethodName × Nat) := lw_privs_1 ++ (lw_privs_2 ++ (lw_privs_3 ++ (lw_privs_4 ++ (lw_privs_5 ++ (lw_privs_6 ++ (lw_privs_7))))))
def lw_tbl : List Cond := k2_sels lw_privs ++ tables_1
theorem lw_privs_ok : ∀ q ∈ lw_privs, lw_okq q := by
  show ∀ q ∈ lw_privs_1 ++ (lw_privs_2 ++ (lw_privs_3 ++ (lw_privs_4 ++ (lw_privs_5 ++ (lw_privs_6 ++ (lw_privs_7)))))), lw_okq q
  exact List.forall_mem_append.mpr ⟨lw_r1, List.forall_mem_append.mpr ⟨lw_r2, List.forall_mem_append.mpr ⟨lw_r3, List.forall_mem_append.mpr ⟨lw_r4, List.forall_mem_append.mpr ⟨lw_r5, List.forall_mem_append.mpr ⟨lw_r6, lw_r7⟩⟩⟩⟩⟩⟩
-- ===== end of PART A; then your names; then what follows =====
def RX0 : String := "StreetTillTen$Circle"
def TX0 : u_T := fun k => match k with
  | 0 => ("StreetTillTen$Circle", "count", "I", false)
  | _ => ("StreetTillTen$Circle", "known", "[I", true)
def tyX0 : Nat → FieldType := fun k => match k with
  | 0 => .int
  | _ => .array .int
abbrev wsX00 : List Cond := u_ws RX0 TX0 2
theorem nmX0 : ∀ a, a < 2 → ∀ b, b < 2 → a ≠ b → (TX0 a).2.1 ≠ (TX0 b).2.1 := by decide +kernel
theorem tyX0_ok : ∀ k, k < 2 → parseFieldDescriptor (TX0 k).2.2.1 = some (tyX0 k) := by decide +kernel
abbrev cX0_init : ByteArray := prog_2_method_1_code
def yX0_init : MethodName := ⟨RX0, "<init>", "()V"⟩
abbrev cX0_see : ByteArray := prog_2_method_2_code
def yX0_see : MethodName := ⟨RX0, "see", "(LStreetTillTen$Street;)V"⟩
abbrev cX0_everyone : ByteArray := prog_2_method_3_code
def yX0_everyone : MethodName := ⟨RX0, "everyone", "()I"⟩
abbrev cX0_turn : ByteArray := prog_2_method_4_code
def yX0_turn : MethodName := ⟨RX0, "turn", "(II)V"⟩
abbrev cX0_companies : ByteArray := prog_2_method_5_code
def yX0_companies : MethodName := ⟨RX0, "companies", "(I)I"⟩
abbrev cX0_largestCompany : ByteArray := prog_2_method_6_code
def yX0_largestCompany : MethodName := ⟨RX0, "largestCompany", "()I"⟩
abbrev cX0_distance : ByteArray := prog_2_method_7_code
def yX0_distance : MethodName := ⟨RX0, "distance", "(II)I"⟩
abbrev cX0_longestWay : ByteArray := prog_2_method_8_code
def yX0_longestWay : MethodName := ⟨RX0, "longestWay", "(I)I"⟩
abbrev cX0_companyOf : ByteArray := prog_2_method_9_code
def yX0_companyOf : MethodName := ⟨RX0, "companyOf", "(II)I"⟩
abbrev cX0_further : ByteArray := prog_2_method_10_code
def yX0_further : MethodName := ⟨RX0, "further", "(I)I"⟩
def RX1 : String := "StreetTillTen$Reader"
def TX1 : u_T := fun k => match k with
  | 0 => ("StreetTillTen$Reader", "tape", "LStreetTillTen$Tape;", true)
  | 1 => ("StreetTillTen$Reader", "text", "LStreetTillTen$Text;", false)
  | 2 => ("StreetTillTen$Reader", "at", "I", false)
  | 3 => ("StreetTillTen$Reader", "token", "I", false)
  | _ => ("StreetTillTen$Reader", "fault", "I", false)
def tyX1 : Nat → FieldType := fun k => match k with
  | 0 => .object "StreetTillTen$Tape"
  | 1 => .object "StreetTillTen$Text"
  | 2 => .int
  | 3 => .int
  | _ => .int
abbrev wsX10 : List Cond := u_ws RX1 TX1 5
theorem nmX1 : ∀ a, a < 5 → ∀ b, b < 5 → a ≠ b → (TX1 a).2.1 ≠ (TX1 b).2.1 := by decide +kernel
theorem tyX1_ok : ∀ k, k < 5 → parseFieldDescriptor (TX1 k).2.2.1 = some (tyX1 k) := by decide +kernel
abbrev cX1_init : ByteArray := prog_3_method_1_code
def yX1_init : MethodName := ⟨RX1, "<init>", "(LStreetTillTen$Tape;LStreetTillTen$Text;)V"⟩
abbrev cX1_readInto : ByteArray := prog_3_method_2_code
def yX1_readInto : MethodName := ⟨RX1, "readInto", "(LStreetTillTen$Text;)I"⟩
abbrev cX1_readPart : ByteArray := prog_3_method_3_code
def yX1_readPart : MethodName := ⟨RX1, "readPart", "(II)V"⟩
abbrev cX1_read : ByteArray := prog_3_method_4_code
def yX1_read : MethodName := ⟨RX1, "read", "(II)V"⟩
abbrev cX1_readOne : ByteArray := prog_3_method_5_code
def yX1_readOne : MethodName := ⟨RX1, "readOne", "(I)V"⟩
abbrev cX1_opens : ByteArray := prog_3_method_6_code
def yX1_opens : MethodName := ⟨RX1, "opens", "(I)Z"⟩
abbrev cX1_expect : ByteArray := prog_3_method_7_code
def yX1_expect : MethodName := ⟨RX1, "expect", "(I)V"⟩
abbrev cX1_next : ByteArray := prog_3_method_8_code
def yX1_next : MethodName := ⟨RX1, "next", "()V"⟩
abbrev cX1_fail : ByteArray := prog_3_method_9_code
def yX1_fail : MethodName := ⟨RX1, "fail", "()V"⟩
abbrev cX1_levelOf : ByteArray := prog_3_method_10_code
def yX1_levelOf : MethodName := ⟨RX1, "levelOf", "(I)I"⟩
abbrev cX1_operationOf : ByteArray := prog_3_method_11_code
def yX1_operationOf : MethodName := ⟨RX1, "operationOf", "(I)I"⟩
def RX2 : String := "StreetTillTen$Sheet"
def TX2 : u_T := fun k => match k with
  | 0 => ("StreetTillTen$Sheet", "sort", "I", false)
  | 1 => ("StreetTillTen$Sheet", "size", "I", false)
  | _ => ("StreetTillTen$Sheet", "items", "[I", true)
def tyX2 : Nat → FieldType := fun k => match k with
  | 0 => .int
  | 1 => .int
  | _ => .array .int
abbrev wsX20 : List Cond := u_ws RX2 TX2 3
theorem nmX2 : ∀ a, a < 3 → ∀ b, b < 3 → a ≠ b → (TX2 a).2.1 ≠ (TX2 b).2.1 := by decide +kernel
theorem tyX2_ok : ∀ k, k < 3 → parseFieldDescriptor (TX2 k).2.2.1 = some (tyX2 k) := by decide +kernel
abbrev cX2_init : ByteArray := prog_4_method_1_code
def yX2_init : MethodName := ⟨RX2, "<init>", "()V"⟩
abbrev cX2_isMissing : ByteArray := prog_4_method_2_code
def yX2_isMissing : MethodName := ⟨RX2, "isMissing", "()Z"⟩
abbrev cX2_lay : ByteArray := prog_4_method_3_code
def yX2_lay : MethodName := ⟨RX2, "lay", "(II)V"⟩
abbrev cX2_holds : ByteArray := prog_4_method_4_code
def yX2_holds : MethodName := ⟨RX2, "holds", "(II)Z"⟩
abbrev cX2_put : ByteArray := prog_4_method_5_code
def yX2_put : MethodName := ⟨RX2, "put", "(II)V"⟩
abbrev cX2_unlikeItems : ByteArray := prog_4_method_6_code
def yX2_unlikeItems : MethodName := ⟨RX2, "unlikeItems", "([I)I"⟩
def RX3 : String := "StreetTillTen$Street"
def TX3 : u_T := fun k => match k with
  | 0 => ("StreetTillTen$Street", "year", "I", false)
  | 1 => ("StreetTillTen$Street", "limit", "I", false)
  | 2 => ("StreetTillTen$Street", "count", "I", false)
  | 3 => ("StreetTillTen$Street", "rule", "LStreetTillTen$Text;", false)
  | 4 => ("StreetTillTen$Street", "kind", "[I", true)
  | 5 => ("StreetTillTen$Street", "number", "[I", true)
  | 6 => ("StreetTillTen$Street", "table", "[I", true)
  | 7 => ("StreetTillTen$Street", "strength", "[[I", true)
  | _ => ("StreetTillTen$Street", "names", "[I", true)
def tyX3 : Nat → FieldType := fun k => match k with
  | 0 => .int
  | 1 => .int
  | 2 => .int
  | 3 => .object "StreetTillTen$Text"
  | 4 => .array .int
  | 5 => .array .int
  | 6 => .array .int
  | 7 => .array (.array .int)
  | _ => .array .int
abbrev wsX30 : List Cond := u_ws RX3 TX3 9
theorem nmX3 : ∀ a, a < 9 → ∀ b, b < 9 → a ≠ b → (TX3 a).2.1 ≠ (TX3 b).2.1 := by decide +kernel
theorem tyX3_ok : ∀ k, k < 9 → parseFieldDescriptor (TX3 k).2.2.1 = some (tyX3 k) := by decide +kernel
abbrev cX3_init : ByteArray := prog_5_method_1_code
def yX3_init : MethodName := ⟨RX3, "<init>", "(LStreetTillTen$Text;)V"⟩
abbrev cX3_become : ByteArray := prog_5_method_2_code
def yX3_become : MethodName := ⟨RX3, "become", "(LStreetTillTen$Street;)V"⟩
abbrev cX3_add : ByteArray := prog_5_method_3_code
def yX3_add : MethodName := ⟨RX3, "add", "(II)V"⟩
abbrev cX3_tie : ByteArray := prog_5_method_4_code
def yX3_tie : MethodName := ⟨RX3, "tie", "(III)V"⟩
abbrev cX3_knows : ByteArray := prog_5_method_5_code
def yX3_knows : MethodName := ⟨RX3, "knows", "(II)Z"⟩
abbrev cX3_acquaintances : ByteArray := prog_5_method_6_code
def yX3_acquaintances : MethodName := ⟨RX3, "acquaintances", "(I)I"⟩
abbrev cX3_friends : ByteArray := prog_5_method_7_code
def yX3_friends : MethodName := ⟨RX3, "friends", "()I"⟩
abbrev cX3_allStrength : ByteArray := prog_5_method_8_code
def yX3_allStrength : MethodName := ⟨RX3, "allStrength", "()I"⟩
abbrev cX3_seatsAt : ByteArray := prog_5_method_9_code
def yX3_seatsAt : MethodName := ⟨RX3, "seatsAt", "(I)I"⟩
abbrev cX3_seated : ByteArray := prog_5_method_10_code
def yX3_seated : MethodName := ⟨RX3, "seated", "()I"⟩
abbrev cX3_meets : ByteArray := prog_5_method_11_code
def yX3_meets : MethodName := ⟨RX3, "meets", "(II)I"⟩
abbrev cX3_forgets : ByteArray := prog_5_method_12_code
def yX3_forgets : MethodName := ⟨RX3, "forgets", "(II)I"⟩
abbrev cX3_sounds : ByteArray := prog_5_method_13_code
def yX3_sounds : MethodName := ⟨RX3, "sounds", "(I)I"⟩
abbrev cX3_look : ByteArray := prog_5_method_14_code
def yX3_look : MethodName := ⟨RX3, "look", "(II)V"⟩
abbrev cX3_holdFeast : ByteArray := prog_5_method_15_code
def yX3_holdFeast : MethodName := ⟨RX3, "holdFeast", "()V"⟩
abbrev cX3_endYear : ByteArray := prog_5_method_16_code
def yX3_endYear : MethodName := ⟨RX3, "endYear", "()V"⟩
abbrev cX3_pass : ByteArray := prog_5_method_17_code
def yX3_pass : MethodName := ⟨RX3, "pass", "(I)I"⟩
abbrev cX3_quietTable : ByteArray := prog_5_method_18_code
def yX3_quietTable : MethodName := ⟨RX3, "quietTable", "()I"⟩
abbrev cX3_dinAt : ByteArray := prog_5_method_19_code
def yX3_dinAt : MethodName := ⟨RX3, "dinAt", "(I)I"⟩
def RX4 : String := "StreetTillTen$Tape"
def TX4 : u_T := fun k => match k with
  | 0 => ("StreetTillTen$Tape", "size", "I", false)
  | 1 => ("StreetTillTen$Tape", "tokens", "[I", true)
  | 2 => ("StreetTillTen$Tape", "starts", "[I", true)
  | 3 => ("StreetTillTen$Tape", "steps", "[I", true)
  | 4 => ("StreetTillTen$Tape", "letters", "[I", true)
  | _ => ("StreetTillTen$Tape", "at", "I", false)
def tyX4 : Nat → FieldType := fun k => match k with
  | 0 => .int
  | 1 => .array .int
  | 2 => .array .int
  | 3 => .array .int
  | 4 => .array .int
  | _ => .int
abbrev wsX40 : List Cond := u_ws RX4 TX4 6
theorem nmX4 : ∀ a, a < 6 → ∀ b, b < 6 → a ≠ b → (TX4 a).2.1 ≠ (TX4 b).2.1 := by decide +kernel
theorem tyX4_ok : ∀ k, k < 6 → parseFieldDescriptor (TX4 k).2.2.1 = some (tyX4 k) := by decide +kernel
abbrev cX4_init : ByteArray := prog_6_method_1_code
def yX4_init : MethodName := ⟨RX4, "<init>", "()V"⟩
abbrev cX4_put : ByteArray := prog_6_method_2_code
def yX4_put : MethodName := ⟨RX4, "put", "(I)Z"⟩
abbrev cX4_empty : ByteArray := prog_6_method_3_code
def yX4_empty : MethodName := ⟨RX4, "empty", "()V"⟩
abbrev cX4_cut : ByteArray := prog_6_method_4_code
def yX4_cut : MethodName := ⟨RX4, "cut", "()V"⟩
abbrev cX4_cutNumber : ByteArray := prog_6_method_5_code
def yX4_cutNumber : MethodName := ⟨RX4, "cutNumber", "(I)V"⟩
abbrev cX4_cutWord : ByteArray := prog_6_method_6_code
def yX4_cutWord : MethodName := ⟨RX4, "cutWord", "(I)V"⟩
abbrev cX4_nameFrom : ByteArray := prog_6_method_7_code
def yX4_nameFrom : MethodName := ⟨RX4, "nameFrom", "(I)I"⟩
abbrev cX4_keyFrom : ByteArray := prog_6_method_8_code
def yX4_keyFrom : MethodName := ⟨RX4, "keyFrom", "(I)I"⟩
abbrev cX4_reads : ByteArray := prog_6_method_9_code
def yX4_reads : MethodName := ⟨RX4, "reads", "(Ljava/lang/String;I)Z"⟩
abbrev cX4_isBlank : ByteArray := prog_6_method_10_code
def yX4_isBlank : MethodName := ⟨RX4, "isBlank", "(I)Z"⟩
abbrev cX4_isDigit : ByteArray := prog_6_method_11_code
def yX4_isDigit : MethodName := ⟨RX4, "isDigit", "(I)Z"⟩
abbrev cX4_isSmall : ByteArray := prog_6_method_12_code
def yX4_isSmall : MethodName := ⟨RX4, "isSmall", "(I)Z"⟩
def RX5 : String := "StreetTillTen$Text"
def TX5 : u_T := fun k => match k with
  | 0 => ("StreetTillTen$Text", "place", "I", true)
  | 1 => ("StreetTillTen$Text", "size", "I", false)
  | 2 => ("StreetTillTen$Text", "steps", "[I", true)
  | 3 => ("StreetTillTen$Text", "ends", "[I", true)
  | _ => ("StreetTillTen$Text", "pile", "[I", true)
def tyX5 : Nat → FieldType := fun k => match k with
  | 0 => .int
  | 1 => .int
  | 2 => .array .int
  | 3 => .array .int
  | _ => .array .int
abbrev wsX50 : List Cond := u_ws RX5 TX5 5
theorem nmX5 : ∀ a, a < 5 → ∀ b, b < 5 → a ≠ b → (TX5 a).2.1 ≠ (TX5 b).2.1 := by decide +kernel
theorem tyX5_ok : ∀ k, k < 5 → parseFieldDescriptor (TX5 k).2.2.1 = some (tyX5 k) := by decide +kernel
abbrev cX5_init : ByteArray := prog_7_method_1_code
def yX5_init : MethodName := ⟨RX5, "<init>", "(I)V"⟩
abbrev cX5_clear : ByteArray := prog_7_method_2_code
def yX5_clear : MethodName := ⟨RX5, "clear", "()V"⟩
abbrev cX5_write : ByteArray := prog_7_method_3_code
def yX5_write : MethodName := ⟨RX5, "write", "(I)V"⟩
abbrev cX5_endPart : ByteArray := prog_7_method_4_code
def yX5_endPart : MethodName := ⟨RX5, "endPart", "(I)V"⟩
abbrev cX5_value : ByteArray := prog_7_method_5_code
def yX5_value : MethodName := ⟨RX5, "value", "(I[I)I"⟩
abbrev cX5_turned : ByteArray := prog_7_method_6_code
def yX5_turned : MethodName := ⟨RX5, "turned", "(II)I"⟩
abbrev cX5_joined : ByteArray := prog_7_method_7_code
def yX5_joined : MethodName := ⟨RX5, "joined", "(III)I"⟩
def RX6 : String := "StreetTillTen"
def TX6 : u_T := fun k => match k with
  | 0 => ("StreetTillTen", "tape", "LStreetTillTen$Tape;", true)
  | 1 => ("StreetTillTen", "reader", "LStreetTillTen$Reader;", true)
  | 2 => ("StreetTillTen", "texts", "[LStreetTillTen$Text;", true)
  | 3 => ("StreetTillTen", "textCount", "I", false)
  | 4 => ("StreetTillTen", "now", "LStreetTillTen$Street;", true)
  | 5 => ("StreetTillTen", "thought", "LStreetTillTen$Street;", true)
  | 6 => ("StreetTillTen", "kept", "LStreetTillTen$Street;", true)
  | 7 => ("StreetTillTen", "hasImage", "Z", false)
  | 8 => ("StreetTillTen", "circle", "LStreetTillTen$Circle;", true)
  | _ => ("StreetTillTen", "sheets", "[LStreetTillTen$Sheet;", true)
def tyX6 : Nat → FieldType := fun k => match k with
  | 0 => .object "StreetTillTen$Tape"
  | 1 => .object "StreetTillTen$Reader"
  | 2 => .array (.object "StreetTillTen$Text")
  | 3 => .int
  | 4 => .object "StreetTillTen$Street"
  | 5 => .object "StreetTillTen$Street"
  | 6 => .object "StreetTillTen$Street"
  | 7 => .boolean
  | 8 => .object "StreetTillTen$Circle"
  | _ => .array (.object "StreetTillTen$Sheet")
abbrev wsX60 : List Cond := u_ws RX6 TX6 10
theorem nmX6 : ∀ a, a < 10 → ∀ b, b < 10 → a ≠ b → (TX6 a).2.1 ≠ (TX6 b).2.1 := by decide +kernel
theorem tyX6_ok : ∀ k, k < 10 → parseFieldDescriptor (TX6 k).2.2.1 = some (tyX6 k) := by decide +kernel
abbrev cX6_init : ByteArray := prog_1_method_1_code
def yX6_init : MethodName := ⟨RX6, "<init>", "()V"⟩
abbrev cX6_set : ByteArray := prog_1_method_2_code
def yX6_set : MethodName := ⟨RX6, "set", "(III)I"⟩
abbrev cX6_house : ByteArray := prog_1_method_3_code
def yX6_house : MethodName := ⟨RX6, "house", "(II)I"⟩
abbrev cX6_bind : ByteArray := prog_1_method_4_code
def yX6_bind : MethodName := ⟨RX6, "bind", "(III)I"⟩
abbrev cX6_told : ByteArray := prog_1_method_5_code
def yX6_told : MethodName := ⟨RX6, "told", "(II)I"⟩
abbrev cX6_feed : ByteArray := prog_1_method_6_code
def yX6_feed : MethodName := ⟨RX6, "feed", "(I)I"⟩
abbrev cX6_text : ByteArray := prog_1_method_7_code
def yX6_text : MethodName := ⟨RX6, "text", "()I"⟩
abbrev cX6_force : ByteArray := prog_1_method_8_code
def yX6_force : MethodName := ⟨RX6, "force", "(I)I"⟩
abbrev cX6_asks : ByteArray := prog_1_method_9_code
def yX6_asks : MethodName := ⟨RX6, "asks", "(III)I"⟩
abbrev cX6_feast : ByteArray := prog_1_method_10_code
def yX6_feast : MethodName := ⟨RX6, "feast", "()I"⟩
abbrev cX6_year : ByteArray := prog_1_method_11_code
def yX6_year : MethodName := ⟨RX6, "year", "()I"⟩
abbrev cX6_street : ByteArray := prog_1_method_12_code
def yX6_street : MethodName := ⟨RX6, "street", "(I)I"⟩
abbrev cX6_way : ByteArray := prog_1_method_13_code
def yX6_way : MethodName := ⟨RX6, "way", "(II)I"⟩
abbrev cX6_run : ByteArray := prog_1_method_14_code
def yX6_run : MethodName := ⟨RX6, "run", "(II)I"⟩
abbrev cX6_takes : ByteArray := prog_1_method_15_code
def yX6_takes : MethodName := ⟨RX6, "takes", "(I)I"⟩
abbrev cX6_best : ByteArray := prog_1_method_16_code
def yX6_best : MethodName := ⟨RX6, "best", "(III)I"⟩
abbrev cX6_change : ByteArray := prog_1_method_17_code
def yX6_change : MethodName := ⟨RX6, "change", "(II)I"⟩
abbrev cX6_split : ByteArray := prog_1_method_18_code
def yX6_split : MethodName := ⟨RX6, "split", "(II)I"⟩
abbrev cX6_missed : ByteArray := prog_1_method_19_code
def yX6_missed : MethodName := ⟨RX6, "missed", "(I)I"⟩
abbrev cX6_match : ByteArray := prog_1_method_20_code
def yX6_match : MethodName := ⟨RX6, "match", "(I)I"⟩
abbrev cX6_tells : ByteArray := prog_1_method_21_code
def yX6_tells : MethodName := ⟨RX6, "tells", "(III)I"⟩
abbrev cX6_film : ByteArray := prog_1_method_22_code
def yX6_film : MethodName := ⟨RX6, "film", "(II)I"⟩
abbrev cX6_drawn : ByteArray := prog_1_method_23_code
def yX6_drawn : MethodName := ⟨RX6, "drawn", "(II)I"⟩
abbrev cX6_chance : ByteArray := prog_1_method_24_code
def yX6_chance : MethodName := ⟨RX6, "chance", "(IIII)J"⟩
abbrev cX6_image : ByteArray := prog_1_method_25_code
def yX6_image : MethodName := ⟨RX6, "image", "()I"⟩
abbrev cX6_back : ByteArray := prog_1_method_26_code
def yX6_back : MethodName := ⟨RX6, "back", "()I"⟩
abbrev cX6_count : ByteArray := prog_1_method_27_code
def yX6_count : MethodName := ⟨RX6, "count", "(I)I"⟩
abbrev cX6_sheet : ByteArray := prog_1_method_28_code
def yX6_sheet : MethodName := ⟨RX6, "sheet", "(III)I"⟩
abbrev cX6_cell : ByteArray := prog_1_method_29_code
def yX6_cell : MethodName := ⟨RX6, "cell", "(III)I"⟩
abbrev cX6_copy : ByteArray := prog_1_method_30_code
def yX6_copy : MethodName := ⟨RX6, "copy", "(IIIII)I"⟩
abbrev cX6_houses : ByteArray := prog_1_method_31_code
def yX6_houses : MethodName := ⟨RX6, "houses", "(IIII)I"⟩
abbrev cX6_taken : ByteArray := prog_1_method_32_code
def yX6_taken : MethodName := ⟨RX6, "taken", "(II)I"⟩
abbrev cX6_isHouse : ByteArray := prog_1_method_33_code
def yX6_isHouse : MethodName := ⟨RX6, "isHouse", "(I)Z"⟩
abbrev cX6_isTwo : ByteArray := prog_1_method_34_code
def yX6_isTwo : MethodName := ⟨RX6, "isTwo", "(II)Z"⟩
abbrev cX6_isSheet : ByteArray := prog_1_method_35_code
def yX6_isSheet : MethodName := ⟨RX6, "isSheet", "(I)Z"⟩
abbrev cX6_isSort : ByteArray := prog_1_method_36_code
def yX6_isSort : MethodName := ⟨RX6, "isSort", "(I)Z"⟩
abbrev cX6_isYears : ByteArray := prog_1_method_37_code
def yX6_isYears : MethodName := ⟨RX6, "isYears", "(I)Z"⟩
abbrev cX6_isFriends : ByteArray := prog_1_method_38_code
def yX6_isFriends : MethodName := ⟨RX6, "isFriends", "(I)Z"⟩
abbrev cX6_isEither : ByteArray := prog_1_method_39_code
def yX6_isEither : MethodName := ⟨RX6, "isEither", "(I)Z"⟩
abbrev cX6_isUnder : ByteArray := prog_1_method_40_code
def yX6_isUnder : MethodName := ⟨RX6, "isUnder", "(II)Z"⟩
abbrev cX6_setting : ByteArray := prog_1_method_41_code
def yX6_setting : MethodName := ⟨RX6, "setting", "(II)I"⟩
abbrev cX6_settle : ByteArray := prog_1_method_42_code
def yX6_settle : MethodName := ⟨RX6, "settle", "(II)I"⟩
abbrev cX6_figure : ByteArray := prog_1_method_43_code
def yX6_figure : MethodName := ⟨RX6, "figure", "(LStreetTillTen$Street;I)I"⟩
abbrev cX6_canChange : ByteArray := prog_1_method_44_code
def yX6_canChange : MethodName := ⟨RX6, "canChange", "(II)Z"⟩
abbrev cX6_friendsDrawn : ByteArray := prog_1_method_45_code
def yX6_friendsDrawn : MethodName := ⟨RX6, "friendsDrawn", "(II)I"⟩
abbrev cX6_commonDivisor : ByteArray := prog_1_method_46_code
def yX6_commonDivisor : MethodName := ⟨RX6, "commonDivisor", "(II)I"⟩
abbrev cX6_otherwise : ByteArray := prog_1_method_47_code
def yX6_otherwise : MethodName := ⟨RX6, "otherwise", "(LStreetTillTen$Sheet;I)I"⟩
abbrev cX6_possible : ByteArray := prog_1_method_48_code
def yX6_possible : MethodName := ⟨RX6, "possible", "(LStreetTillTen$Sheet;II)I"⟩
abbrev cX6_choices : ByteArray := prog_1_method_49_code
def yX6_choices : MethodName := ⟨RX6, "choices", "(I)I"⟩
abbrev cX6_suppose : ByteArray := prog_1_method_50_code
def yX6_suppose : MethodName := ⟨RX6, "suppose", "(III)V"⟩
abbrev cX6_limits : ByteArray := prog_1_method_51_code
def yX6_limits : MethodName := ⟨RX6, "limits", "(LStreetTillTen$Sheet;I)I"⟩
abbrev cX6_leastLimit : ByteArray := prog_1_method_52_code
def yX6_leastLimit : MethodName := ⟨RX6, "leastLimit", "(LStreetTillTen$Sheet;I)I"⟩
abbrev cX6_fits : ByteArray := prog_1_method_53_code
def yX6_fits : MethodName := ⟨RX6, "fits", "(LStreetTillTen$Sheet;II)Z"⟩
def RX7 : String := "StreetTillTenModel"
def TX7 : u_T := fun k => match k with
  | 0 => ("StreetTillTenModel", "thrown", "I", false)
  | 1 => ("StreetTillTenModel", "texts", "[I", true)
  | 2 => ("StreetTillTenModel", "textSize", "[I", true)
  | 3 => ("StreetTillTenModel", "textCount", "I", false)
  | 4 => ("StreetTillTenModel", "rule", "I", false)
  | 5 => ("StreetTillTenModel", "tape", "[I", true)
  | 6 => ("StreetTillTenModel", "taped", "I", false)
  | 7 => ("StreetTillTenModel", "yearNow", "I", false)
  | 8 => ("StreetTillTenModel", "limit", "I", false)
  | 9 => ("StreetTillTenModel", "kinds", "[I", true)
  | 10 => ("StreetTillTenModel", "numbers", "[I", true)
  | 11 => ("StreetTillTenModel", "tables", "[I", true)
  | 12 => ("StreetTillTenModel", "strengths", "[I", true)
  | 13 => ("StreetTillTenModel", "many", "I", false)
  | 14 => ("StreetTillTenModel", "ofStrength", "I", false)
  | 15 => ("StreetTillTenModel", "ofNumber", "I", false)
  | 16 => ("StreetTillTenModel", "ofOther", "I", false)
  | 17 => ("StreetTillTenModel", "ofSeats", "I", false)
  | 18 => ("StreetTillTenModel", "ofYear", "I", false)
  | 19 => ("StreetTillTenModel", "ofApart", "I", false)
  | 20 => ("StreetTillTenModel", "from", "I", false)
  | 21 => ("StreetTillTenModel", "size", "I", false)
  | 22 => ("StreetTillTenModel", "here", "I", false)
  | 23 => ("StreetTillTenModel", "token", "I", false)
  | 24 => ("StreetTillTenModel", "tokenAt", "I", false)
  | 25 => ("StreetTillTenModel", "tokenWorth", "J", false)
  | 26 => ("StreetTillTenModel", "open", "I", false)
  | 27 => ("StreetTillTenModel", "bad", "Z", false)
  | 28 => ("StreetTillTenModel", "fault", "I", false)
  | 29 => ("StreetTillTenModel", "extraA", "I", false)
  | 30 => ("StreetTillTenModel", "extraB", "I", false)
  | 31 => ("StreetTillTenModel", "gone", "I", false)
  | 32 => ("StreetTillTenModel", "ways", "[I", true)
  | 33 => ("StreetTillTenModel", "strengthsWas", "[I", true)
  | 34 => ("StreetTillTenModel", "yearWas", "I", false)
  | 35 => ("StreetTillTenModel", "tablesWas", "[I", true)
  | 36 => ("StreetTillTenModel", "numbersKept", "[I", true)
  | 37 => ("StreetTillTenModel", "tablesKept", "[I", true)
  | 38 => ("StreetTillTenModel", "strengthsKept", "[I", true)
  | 39 => ("StreetTillTenModel", "manyKept", "I", false)
  | 40 => ("StreetTillTenModel", "yearKept", "I", false)
  | 41 => ("StreetTillTenModel", "limitKept", "I", false)
  | 42 => ("StreetTillTenModel", "ruleKept", "I", false)
  | 43 => ("StreetTillTenModel", "isThere", "[Z", true)
  | 44 => ("StreetTillTenModel", "sorts", "[I", true)
  | 45 => ("StreetTillTenModel", "sheetSize", "[I", true)
  | _ => ("StreetTillTenModel", "items", "[I", true)
def tyX7 : Nat → FieldType := fun k => match k with
  | 0 => .int
  | 1 => .array .int
  | 2 => .array .int
  | 3 => .int
  | 4 => .int
  | 5 => .array .int
  | 6 => .int
  | 7 => .int
  | 8 => .int
  | 9 => .array .int
  | 10 => .array .int
  | 11 => .array .int
  | 12 => .array .int
  | 13 => .int
  | 14 => .int
  | 15 => .int
  | 16 => .int
  | 17 => .int
  | 18 => .int
  | 19 => .int
  | 20 => .int
  | 21 => .int
  | 22 => .int
  | 23 => .int
  | 24 => .int
  | 25 => .long
  | 26 => .int
  | 27 => .boolean
  | 28 => .int
  | 29 => .int
  | 30 => .int
  | 31 => .int
  | 32 => .array .int
  | 33 => .array .int
  | 34 => .int
  | 35 => .array .int
  | 36 => .array .int
  | 37 => .array .int
  | 38 => .array .int
  | 39 => .int
  | 40 => .int
  | 41 => .int
  | 42 => .int
  | 43 => .array .boolean
  | 44 => .array .int
  | 45 => .array .int
  | _ => .array .int
abbrev wsX70 : List Cond := u_ws RX7 TX7 47
theorem nmX7 : ∀ a, a < 47 → ∀ b, b < 47 → a ≠ b → (TX7 a).2.1 ≠ (TX7 b).2.1 := by decide +kernel
theorem tyX7_ok : ∀ k, k < 47 → parseFieldDescriptor (TX7 k).2.2.1 = some (tyX7 k) := by decide +kernel
abbrev cX7_in : ByteArray := prog_9_method_2_code
def yX7_in : MethodName := ⟨RX7, "in", "(JJJ)Z"⟩
abbrev cX7_within : ByteArray := prog_9_method_3_code
def yX7_within : MethodName := ⟨RX7, "within", "(III)I"⟩
abbrev cX7_init : ByteArray := prog_9_method_4_code
def yX7_init : MethodName := ⟨RX7, "<init>", "()V"⟩
abbrev cX7_spell : ByteArray := prog_9_method_5_code
def yX7_spell : MethodName := ⟨RX7, "spell", "(IIIIIIIII)V"⟩
abbrev cX7_isHouse : ByteArray := prog_9_method_6_code
def yX7_isHouse : MethodName := ⟨RX7, "isHouse", "(I)Z"⟩
abbrev cX7_isValue : ByteArray := prog_9_method_7_code
def yX7_isValue : MethodName := ⟨RX7, "isValue", "(II)Z"⟩
abbrev cX7_set : ByteArray := prog_9_method_8_code
def yX7_set : MethodName := ⟨RX7, "set", "(III)I"⟩
abbrev cX7_lays : ByteArray := prog_9_method_9_code
def yX7_lays : MethodName := ⟨RX7, "lays", "(III)V"⟩
abbrev cX7_strengthOf : ByteArray := prog_9_method_10_code
def yX7_strengthOf : MethodName := ⟨RX7, "strengthOf", "(II)I"⟩
abbrev cX7_binds : ByteArray := prog_9_method_11_code
def yX7_binds : MethodName := ⟨RX7, "binds", "(III)V"⟩
abbrev cX7_house : ByteArray := prog_9_method_12_code
def yX7_house : MethodName := ⟨RX7, "house", "(II)I"⟩
abbrev cX7_areTwo : ByteArray := prog_9_method_13_code
def yX7_areTwo : MethodName := ⟨RX7, "areTwo", "(II)Z"⟩
abbrev cX7_bind : ByteArray := prog_9_method_14_code
def yX7_bind : MethodName := ⟨RX7, "bind", "(III)I"⟩
abbrev cX7_told : ByteArray := prog_9_method_15_code
def yX7_told : MethodName := ⟨RX7, "told", "(II)I"⟩
abbrev cX7_seatsOf : ByteArray := prog_9_method_16_code
def yX7_seatsOf : MethodName := ⟨RX7, "seatsOf", "(I)I"⟩
abbrev cX7_feed : ByteArray := prog_9_method_17_code
def yX7_feed : MethodName := ⟨RX7, "feed", "(I)I"⟩
abbrev cX7_byteAt : ByteArray := prog_9_method_18_code
def yX7_byteAt : MethodName := ⟨RX7, "byteAt", "(I)I"⟩
abbrev cX7_next : ByteArray := prog_9_method_19_code
def yX7_next : MethodName := ⟨RX7, "next", "()V"⟩
abbrev cX7_fail : ByteArray := prog_9_method_20_code
def yX7_fail : MethodName := ⟨RX7, "fail", "()V"⟩
abbrev cX7_isLetter : ByteArray := prog_9_method_21_code
def yX7_isLetter : MethodName := ⟨RX7, "isLetter", "(II)Z"⟩
abbrev cX7_isWord : ByteArray := prog_9_method_22_code
def yX7_isWord : MethodName := ⟨RX7, "isWord", "(IIIIIIII)Z"⟩
abbrev cX7_isSign : ByteArray := prog_9_method_23_code
def yX7_isSign : MethodName := ⟨RX7, "isSign", "(I)Z"⟩
abbrev cX7_opens : ByteArray := prog_9_method_24_code
def yX7_opens : MethodName := ⟨RX7, "opens", "()Z"⟩
abbrev cX7_name : ByteArray := prog_9_method_25_code
def yX7_name : MethodName := ⟨RX7, "name", "()I"⟩
abbrev cX7_atom5 : ByteArray := prog_9_method_26_code
def yX7_atom5 : MethodName := ⟨RX7, "atom5", "()I"⟩
abbrev cX7_term5 : ByteArray := prog_9_method_27_code
def yX7_term5 : MethodName := ⟨RX7, "term5", "()I"⟩
abbrev cX7_added5 : ByteArray := prog_9_method_28_code
def yX7_added5 : MethodName := ⟨RX7, "added5", "()I"⟩
abbrev cX7_not5 : ByteArray := prog_9_method_29_code
def yX7_not5 : MethodName := ⟨RX7, "not5", "()I"⟩
abbrev cX7_both5 : ByteArray := prog_9_method_30_code
def yX7_both5 : MethodName := ⟨RX7, "both5", "()I"⟩
abbrev cX7_either5 : ByteArray := prog_9_method_31_code
def yX7_either5 : MethodName := ⟨RX7, "either5", "()I"⟩
abbrev cX7_atom4 : ByteArray := prog_9_method_32_code
def yX7_atom4 : MethodName := ⟨RX7, "atom4", "()I"⟩
abbrev cX7_term4 : ByteArray := prog_9_method_33_code
def yX7_term4 : MethodName := ⟨RX7, "term4", "()I"⟩
abbrev cX7_added4 : ByteArray := prog_9_method_34_code
def yX7_added4 : MethodName := ⟨RX7, "added4", "()I"⟩
abbrev cX7_not4 : ByteArray := prog_9_method_35_code
def yX7_not4 : MethodName := ⟨RX7, "not4", "()I"⟩
abbrev cX7_both4 : ByteArray := prog_9_method_36_code
def yX7_both4 : MethodName := ⟨RX7, "both4", "()I"⟩
abbrev cX7_either4 : ByteArray := prog_9_method_37_code
def yX7_either4 : MethodName := ⟨RX7, "either4", "()I"⟩
abbrev cX7_atom3 : ByteArray := prog_9_method_38_code
def yX7_atom3 : MethodName := ⟨RX7, "atom3", "()I"⟩
abbrev cX7_term3 : ByteArray := prog_9_method_39_code
def yX7_term3 : MethodName := ⟨RX7, "term3", "()I"⟩
abbrev cX7_added3 : ByteArray := prog_9_method_40_code
def yX7_added3 : MethodName := ⟨RX7, "added3", "()I"⟩
abbrev cX7_not3 : ByteArray := prog_9_method_41_code
def yX7_not3 : MethodName := ⟨RX7, "not3", "()I"⟩
abbrev cX7_both3 : ByteArray := prog_9_method_42_code
def yX7_both3 : MethodName := ⟨RX7, "both3", "()I"⟩
abbrev cX7_either3 : ByteArray := prog_9_method_43_code
def yX7_either3 : MethodName := ⟨RX7, "either3", "()I"⟩
abbrev cX7_atom2 : ByteArray := prog_9_method_44_code
def yX7_atom2 : MethodName := ⟨RX7, "atom2", "()I"⟩
abbrev cX7_term2 : ByteArray := prog_9_method_45_code
def yX7_term2 : MethodName := ⟨RX7, "term2", "()I"⟩
abbrev cX7_added2 : ByteArray := prog_9_method_46_code
def yX7_added2 : MethodName := ⟨RX7, "added2", "()I"⟩
abbrev cX7_not2 : ByteArray := prog_9_method_47_code
def yX7_not2 : MethodName := ⟨RX7, "not2", "()I"⟩
abbrev cX7_both2 : ByteArray := prog_9_method_48_code
def yX7_both2 : MethodName := ⟨RX7, "both2", "()I"⟩
abbrev cX7_either2 : ByteArray := prog_9_method_49_code
def yX7_either2 : MethodName := ⟨RX7, "either2", "()I"⟩
abbrev cX7_atom1 : ByteArray := prog_9_method_50_code
def yX7_atom1 : MethodName := ⟨RX7, "atom1", "()I"⟩
abbrev cX7_term1 : ByteArray := prog_9_method_51_code
def yX7_term1 : MethodName := ⟨RX7, "term1", "()I"⟩
abbrev cX7_added1 : ByteArray := prog_9_method_52_code
def yX7_added1 : MethodName := ⟨RX7, "added1", "()I"⟩
abbrev cX7_not1 : ByteArray := prog_9_method_53_code
def yX7_not1 : MethodName := ⟨RX7, "not1", "()I"⟩
abbrev cX7_both1 : ByteArray := prog_9_method_54_code
def yX7_both1 : MethodName := ⟨RX7, "both1", "()I"⟩
abbrev cX7_either1 : ByteArray := prog_9_method_55_code
def yX7_either1 : MethodName := ⟨RX7, "either1", "()I"⟩
abbrev cX7_atom0 : ByteArray := prog_9_method_56_code
def yX7_atom0 : MethodName := ⟨RX7, "atom0", "()I"⟩
abbrev cX7_term0 : ByteArray := prog_9_method_57_code
def yX7_term0 : MethodName := ⟨RX7, "term0", "()I"⟩
abbrev cX7_added0 : ByteArray := prog_9_method_58_code
def yX7_added0 : MethodName := ⟨RX7, "added0", "()I"⟩
abbrev cX7_not0 : ByteArray := prog_9_method_59_code
def yX7_not0 : MethodName := ⟨RX7, "not0", "()I"⟩
abbrev cX7_both0 : ByteArray := prog_9_method_60_code
def yX7_both0 : MethodName := ⟨RX7, "both0", "()I"⟩
abbrev cX7_either0 : ByteArray := prog_9_method_61_code
def yX7_either0 : MethodName := ⟨RX7, "either0", "()I"⟩
abbrev cX7_part : ByteArray := prog_9_method_62_code
def yX7_part : MethodName := ⟨RX7, "part", "(Z)I"⟩
abbrev cX7_read : ByteArray := prog_9_method_63_code
def yX7_read : MethodName := ⟨RX7, "read", "(II)I"⟩
abbrev cX7_text : ByteArray := prog_9_method_64_code
def yX7_text : MethodName := ⟨RX7, "text", "()I"⟩
abbrev cX7_force : ByteArray := prog_9_method_65_code
def yX7_force : MethodName := ⟨RX7, "force", "(I)I"⟩
abbrev cX7_says : ByteArray := prog_9_method_66_code
def yX7_says : MethodName := ⟨RX7, "says", "(III)I"⟩
abbrev cX7_apart : ByteArray := prog_9_method_67_code
def yX7_apart : MethodName := ⟨RX7, "apart", "(II)I"⟩
abbrev cX7_meetsOf : ByteArray := prog_9_method_68_code
def yX7_meetsOf : MethodName := ⟨RX7, "meetsOf", "(II)I"⟩
abbrev cX7_fadesOf : ByteArray := prog_9_method_69_code
def yX7_fadesOf : MethodName := ⟨RX7, "fadesOf", "(II)I"⟩
abbrev cX7_soundsOf : ByteArray := prog_9_method_70_code
def yX7_soundsOf : MethodName := ⟨RX7, "soundsOf", "(I)I"⟩
abbrev cX7_asks : ByteArray := prog_9_method_71_code
def yX7_asks : MethodName := ⟨RX7, "asks", "(III)I"⟩
abbrev cX7_feasts : ByteArray := prog_9_method_72_code
def yX7_feasts : MethodName := ⟨RX7, "feasts", "()V"⟩
abbrev cX7_fades : ByteArray := prog_9_method_73_code
def yX7_fades : MethodName := ⟨RX7, "fades", "()V"⟩
abbrev cX7_feast : ByteArray := prog_9_method_74_code
def yX7_feast : MethodName := ⟨RX7, "feast", "()I"⟩
abbrev cX7_year : ByteArray := prog_9_method_75_code
def yX7_year : MethodName := ⟨RX7, "year", "()I"⟩
abbrev cX7_knows : ByteArray := prog_9_method_76_code
def yX7_knows : MethodName := ⟨RX7, "knows", "(II)Z"⟩
abbrev cX7_friends : ByteArray := prog_9_method_77_code
def yX7_friends : MethodName := ⟨RX7, "friends", "()I"⟩
abbrev cX7_waysAll : ByteArray := prog_9_method_78_code
def yX7_waysAll : MethodName := ⟨RX7, "waysAll", "()V"⟩
abbrev cX7_companies : ByteArray := prog_9_method_79_code
def yX7_companies : MethodName := ⟨RX7, "companies", "()I"⟩
abbrev cX7_largest : ByteArray := prog_9_method_80_code
def yX7_largest : MethodName := ⟨RX7, "largest", "()I"⟩
abbrev cX7_longest : ByteArray := prog_9_method_81_code
def yX7_longest : MethodName := ⟨RX7, "longest", "(I)I"⟩
abbrev cX7_strengthAll : ByteArray := prog_9_method_82_code
def yX7_strengthAll : MethodName := ⟨RX7, "strengthAll", "()I"⟩
abbrev cX7_quietest : ByteArray := prog_9_method_83_code
def yX7_quietest : MethodName := ⟨RX7, "quietest", "()I"⟩
abbrev cX7_tellsOf : ByteArray := prog_9_method_84_code
def yX7_tellsOf : MethodName := ⟨RX7, "tellsOf", "(I)I"⟩
abbrev cX7_street : ByteArray := prog_9_method_85_code
def yX7_street : MethodName := ⟨RX7, "street", "(I)I"⟩
abbrev cX7_way : ByteArray := prog_9_method_86_code
def yX7_way : MethodName := ⟨RX7, "way", "(II)I"⟩
abbrev cX7_laysAside : ByteArray := prog_9_method_87_code
def yX7_laysAside : MethodName := ⟨RX7, "laysAside", "()V"⟩
abbrev cX7_laysBack : ByteArray := prog_9_method_88_code
def yX7_laysBack : MethodName := ⟨RX7, "laysBack", "()V"⟩
abbrev cX7_lives : ByteArray := prog_9_method_89_code
def yX7_lives : MethodName := ⟨RX7, "lives", "(I)V"⟩
abbrev cX7_run : ByteArray := prog_9_method_90_code
def yX7_run : MethodName := ⟨RX7, "run", "(II)I"⟩
abbrev cX7_friendsBehind : ByteArray := prog_9_method_91_code
def yX7_friendsBehind : MethodName := ⟨RX7, "friendsBehind", "(I)I"⟩
abbrev cX7_takes : ByteArray := prog_9_method_92_code
def yX7_takes : MethodName := ⟨RX7, "takes", "(I)I"⟩
abbrev cX7_best : ByteArray := prog_9_method_93_code
def yX7_best : MethodName := ⟨RX7, "best", "(III)I"⟩
abbrev cX7_change : ByteArray := prog_9_method_94_code
def yX7_change : MethodName := ⟨RX7, "change", "(II)I"⟩
abbrev cX7_clears : ByteArray := prog_9_method_95_code
def yX7_clears : MethodName := ⟨RX7, "clears", "()V"⟩
abbrev cX7_sitsAgain : ByteArray := prog_9_method_96_code
def yX7_sitsAgain : MethodName := ⟨RX7, "sitsAgain", "()V"⟩
abbrev cX7_split : ByteArray := prog_9_method_97_code
def yX7_split : MethodName := ⟨RX7, "split", "(II)I"⟩
abbrev cX7_missed : ByteArray := prog_9_method_98_code
def yX7_missed : MethodName := ⟨RX7, "missed", "(I)I"⟩
abbrev cX7_match : ByteArray := prog_9_method_99_code
def yX7_match : MethodName := ⟨RX7, "match", "(I)I"⟩
abbrev cX7_unlike : ByteArray := prog_9_method_100_code
def yX7_unlike : MethodName := ⟨RX7, "unlike", "(II)I"⟩
abbrev cX7_limitsBy : ByteArray := prog_9_method_101_code
def yX7_limitsBy : MethodName := ⟨RX7, "limitsBy", "(IIZ)I"⟩
abbrev cX7_tells : ByteArray := prog_9_method_102_code
def yX7_tells : MethodName := ⟨RX7, "tells", "(III)I"⟩
abbrev cX7_film : ByteArray := prog_9_method_103_code
def yX7_film : MethodName := ⟨RX7, "film", "(II)I"⟩
abbrev cX7_friendsBy : ByteArray := prog_9_method_104_code
def yX7_friendsBy : MethodName := ⟨RX7, "friendsBy", "(II)I"⟩
abbrev cX7_drawn : ByteArray := prog_9_method_105_code
def yX7_drawn : MethodName := ⟨RX7, "drawn", "(II)I"⟩
abbrev cX7_chance : ByteArray := prog_9_method_106_code
def yX7_chance : MethodName := ⟨RX7, "chance", "(IIII)J"⟩
abbrev cX7_image : ByteArray := prog_9_method_107_code
def yX7_image : MethodName := ⟨RX7, "image", "()I"⟩
abbrev cX7_back : ByteArray := prog_9_method_108_code
def yX7_back : MethodName := ⟨RX7, "back", "()I"⟩
abbrev cX7_count : ByteArray := prog_9_method_109_code
def yX7_count : MethodName := ⟨RX7, "count", "(I)I"⟩
abbrev cX7_isSheet : ByteArray := prog_9_method_110_code
def yX7_isSheet : MethodName := ⟨RX7, "isSheet", "(I)Z"⟩
abbrev cX7_sheet : ByteArray := prog_9_method_111_code
def yX7_sheet : MethodName := ⟨RX7, "sheet", "(III)I"⟩
abbrev cX7_cell : ByteArray := prog_9_method_112_code
def yX7_cell : MethodName := ⟨RX7, "cell", "(III)I"⟩
abbrev cX7_copy : ByteArray := prog_9_method_113_code
def yX7_copy : MethodName := ⟨RX7, "copy", "(IIIII)I"⟩
abbrev cX7_houses : ByteArray := prog_9_method_114_code
def yX7_houses : MethodName := ⟨RX7, "houses", "(IIII)I"⟩
abbrev cX7_over : ByteArray := prog_9_method_115_code
def yX7_over : MethodName := ⟨RX7, "over", "(I)I"⟩
abbrev cX7_taken : ByteArray := prog_9_method_116_code
def yX7_taken : MethodName := ⟨RX7, "taken", "(II)I"⟩
def RJ6 : String := "java/lang/Integer"
def TJ6 : u_T := fun k => match k with
  | _ => ("", "", "", false)
def tyJ6 : Nat → FieldType := fun k => match k with
  | _ => .int
abbrev wsJ60 : List Cond := u_ws RJ6 TJ6 0
theorem nmJ6 : ∀ a, a < 0 → ∀ b, b < 0 → a ≠ b → (TJ6 a).2.1 ≠ (TJ6 b).2.1 := by decide +kernel
theorem tyJ6_ok : ∀ k, k < 0 → parseFieldDescriptor (TJ6 k).2.2.1 = some (tyJ6 k) := by decide +kernel
abbrev cJ6_bitCount_0f7a4 : ByteArray := prog_10_method_49_code
def yJ6_bitCount_0f7a4 : MethodName := ⟨RJ6, "bitCount", "(I)I"⟩
def RJ9 : String := "java/lang/Math"
def TJ9 : u_T := fun k => match k with
  | _ => ("", "", "", false)
def tyJ9 : Nat → FieldType := fun k => match k with
  | _ => .int
abbrev wsJ90 : List Cond := u_ws RJ9 TJ9 0
theorem nmJ9 : ∀ a, a < 0 → ∀ b, b < 0 → a ≠ b → (TJ9 a).2.1 ≠ (TJ9 b).2.1 := by decide +kernel
theorem tyJ9_ok : ∀ k, k < 0 → parseFieldDescriptor (TJ9 k).2.2.1 = some (tyJ9 k) := by decide +kernel
abbrev cJ9_abs_0f7a4 : ByteArray := prog_11_method_59_code
def yJ9_abs_0f7a4 : MethodName := ⟨RJ9, "abs", "(I)I"⟩
abbrev cJ9_max_7cf53 : ByteArray := prog_11_method_65_code
def yJ9_max_7cf53 : MethodName := ⟨RJ9, "max", "(II)I"⟩
abbrev cJ9_min_7cf53 : ByteArray := prog_11_method_69_code
def yJ9_min_7cf53 : MethodName := ⟨RJ9, "min", "(II)I"⟩
def RJ0 : String := "java/lang/String"
def TJ0 : u_T := fun k => match k with
  | _ => ("", "", "", false)
def tyJ0 : Nat → FieldType := fun k => match k with
  | _ => .int
abbrev wsJ00 : List Cond := u_ws RJ0 TJ0 0
theorem nmJ0 : ∀ a, a < 0 → ∀ b, b < 0 → a ≠ b → (TJ0 a).2.1 ≠ (TJ0 b).2.1 := by decide +kernel
theorem tyJ0_ok : ∀ k, k < 0 → parseFieldDescriptor (TJ0 k).2.2.1 = some (tyJ0 k) := by decide +kernel
abbrev cJ0_length_8abf5 : ByteArray := prog_12_method_54_code
def yJ0_length_8abf5 : MethodName := ⟨RJ0, "length", "()I"⟩
abbrev cJ0_charAt_5068e : ByteArray := prog_12_method_56_code
def yJ0_charAt_5068e : MethodName := ⟨RJ0, "charAt", "(I)C"⟩
abbrev cJ0_coder_7d493 : ByteArray := prog_12_method_152_code
def yJ0_coder_7d493 : MethodName := ⟨RJ0, "coder", "()B"⟩
abbrev cJ0_isLatin1_aae02 : ByteArray := prog_12_method_154_code
def yJ0_isLatin1_aae02 : MethodName := ⟨RJ0, "isLatin1", "()Z"⟩
abbrev cJ0_checkIndex_df160 : ByteArray := prog_12_method_155_code
def yJ0_checkIndex_df160 : MethodName := ⟨RJ0, "checkIndex", "(II)V"⟩
def RJ1 : String := "java/lang/StringLatin1"
def TJ1 : u_T := fun k => match k with
  | _ => ("", "", "", false)
def tyJ1 : Nat → FieldType := fun k => match k with
  | _ => .int
abbrev wsJ10 : List Cond := u_ws RJ1 TJ1 0
theorem nmJ1 : ∀ a, a < 0 → ∀ b, b < 0 → a ≠ b → (TJ1 a).2.1 ≠ (TJ1 b).2.1 := by decide +kernel
theorem tyJ1_ok : ∀ k, k < 0 → parseFieldDescriptor (TJ1 k).2.2.1 = some (tyJ1 k) := by decide +kernel
abbrev cJ1_charAt_3b067 : ByteArray := prog_13_method_2_code
def yJ1_charAt_3b067 : MethodName := ⟨RJ1, "charAt", "([BI)C"⟩
def RJ2 : String := "java/lang/StringUTF16"
def TJ2 : u_T := fun k => match k with
  | _ => ("", "", "", false)
def tyJ2 : Nat → FieldType := fun k => match k with
  | _ => .int
abbrev wsJ20 : List Cond := u_ws RJ2 TJ2 0
theorem nmJ2 : ∀ a, a < 0 → ∀ b, b < 0 → a ≠ b → (TJ2 a).2.1 ≠ (TJ2 b).2.1 := by decide +kernel
theorem tyJ2_ok : ∀ k, k < 0 → parseFieldDescriptor (TJ2 k).2.2.1 = some (tyJ2 k) := by decide +kernel
abbrev cJ2_getChar_3b067 : ByteArray := prog_14_method_5_code
def yJ2_getChar_3b067 : MethodName := ⟨RJ2, "getChar", "([BI)C"⟩
abbrev cJ2_length_9d52b : ByteArray := prog_14_method_6_code
def yJ2_length_9d52b : MethodName := ⟨RJ2, "length", "([B)I"⟩
abbrev cJ2_charAt_3b067 : ByteArray := prog_14_method_83_code
def yJ2_charAt_3b067 : MethodName := ⟨RJ2, "charAt", "([BI)C"⟩
abbrev cJ2_checkIndex_2214a : ByteArray := prog_14_method_91_code
def yJ2_checkIndex_2214a : MethodName := ⟨RJ2, "checkIndex", "(I[B)V"⟩
def RJ10 : String := "java/lang/System"
def TJ10 : u_T := fun k => match k with
  | _ => ("", "", "", false)
def tyJ10 : Nat → FieldType := fun k => match k with
  | _ => .int
abbrev wsJ100 : List Cond := u_ws RJ10 TJ10 0
theorem nmJ10 : ∀ a, a < 0 → ∀ b, b < 0 → a ≠ b → (TJ10 a).2.1 ≠ (TJ10 b).2.1 := by decide +kernel
theorem tyJ10_ok : ∀ k, k < 0 → parseFieldDescriptor (TJ10 k).2.2.1 = some (tyJ10 k) := by decide +kernel
def RJ3 : String := "jdk/internal/util/Preconditions"
def TJ3 : u_T := fun k => match k with
  | _ => ("", "", "", false)
def tyJ3 : Nat → FieldType := fun k => match k with
  | _ => .int
abbrev wsJ30 : List Cond := u_ws RJ3 TJ3 0
theorem nmJ3 : ∀ a, a < 0 → ∀ b, b < 0 → a ≠ b → (TJ3 a).2.1 ≠ (TJ3 b).2.1 := by decide +kernel
theorem tyJ3_ok : ∀ k, k < 0 → parseFieldDescriptor (TJ3 k).2.2.1 = some (tyJ3 k) := by decide +kernel
abbrev cJ3_checkIndex_8e157 : ByteArray := prog_16_method_11_code
def yJ3_checkIndex_8e157 : MethodName := ⟨RJ3, "checkIndex", "(IILjava/util/function/BiFunction;)I"⟩
def RL : String := "StreetTillTenLaw"
abbrev cL_law : ByteArray := code
def yL_law : MethodName := ⟨RL, "law", "([I)Z"⟩
def wsL_law_r1 : List Cond := [Cond.classLink RL 7 RX6, Cond.instantiable RX6 10, Cond.initialized RX6, Cond.classLink RL 10 RX7, Cond.instantiable RX7 47, Cond.initialized RX7, Cond.methodLink RL 9 yX6_init, Cond.instanceMethod yX6_init, Cond.code yX6_init cX6_init 2 none, Cond.methodLink RX6 1 objectInit, Cond.instanceMethod objectInit, Cond.code objectInit ⟨#[0xb1]⟩ 1 none, Cond.classLink RX6 7 RX4, Cond.instantiable RX4 6, Cond.initialized RX4, Cond.fieldLink RX6 10 "StreetTillTen" "tape" "LStreetTillTen$Tape;", Cond.classLink RX6 16 RX5, Cond.fieldLink RX6 18 "StreetTillTen" "texts" "[LStreetTillTen$Text;", Cond.classLink RX6 22 RX0, Cond.instantiable RX0 2, Cond.initialized RX0, Cond.fieldLink RX6 25 "StreetTillTen" "circle" "LStreetTillTen$Circle;", Cond.classLink RX6 29 RX2, Cond.fieldLink RX6 31 "StreetTillTen" "sheets" "[LStreetTillTen$Sheet;"]
def wsL_law_r2 : List Cond := [Cond.instantiable RX5 5, Cond.initialized RX5, Cond.instantiable RX2 3, Cond.initialized RX2, Cond.classLink RX6 55 RX1, Cond.instantiable RX1 5, Cond.initialized RX1, Cond.fieldLink RX6 60 "StreetTillTen" "reader" "LStreetTillTen$Reader;", Cond.fieldLink RX6 71 "StreetTillTen" "textCount" "I", Cond.classLink RX6 75 RX3, Cond.instantiable RX3 9, Cond.initialized RX3, Cond.fieldLink RX6 80 "StreetTillTen" "now" "LStreetTillTen$Street;", Cond.fieldLink RX6 84 "StreetTillTen" "thought" "LStreetTillTen$Street;", Cond.fieldLink RX6 87 "StreetTillTen" "kept" "LStreetTillTen$Street;", Cond.instanceMethod yX4_init, Cond.code yX4_init cX4_init 1 none, Cond.methodLink RX4 3 objectInit, Cond.arrayClass .int, Cond.fieldLink RX4 11 "StreetTillTen$Tape" "tokens" "[I", Cond.fieldLink RX4 15 "StreetTillTen$Tape" "starts" "[I", Cond.fieldLink RX4 18 "StreetTillTen$Tape" "steps" "[I", Cond.fieldLink RX4 21 "StreetTillTen$Tape" "letters" "[I", Cond.instanceMethod yX0_init]
def wsL_law_r3 : List Cond := [Cond.code yX0_init cX0_init 1 none, Cond.methodLink RX0 3 objectInit, Cond.fieldLink RX0 9 "StreetTillTen$Circle" "known" "[I", Cond.methodLink RX6 35 yX5_init, Cond.instanceMethod yX5_init, Cond.code yX5_init cX5_init 2 none, Cond.methodLink RX5 1 objectInit, Cond.fieldLink RX5 9 "StreetTillTen$Text" "steps" "[I", Cond.fieldLink RX5 15 "StreetTillTen$Text" "ends" "[I", Cond.fieldLink RX5 18 "StreetTillTen$Text" "pile" "[I", Cond.fieldLink RX5 21 "StreetTillTen$Text" "place" "I", Cond.instanceMethod yX2_init, Cond.code yX2_init cX2_init 1 none, Cond.methodLink RX2 3 objectInit, Cond.fieldLink RX2 9 "StreetTillTen$Sheet" "sort" "I", Cond.fieldLink RX2 15 "StreetTillTen$Sheet" "items" "[I", Cond.methodLink RX6 41 yJ0_length_8abf5, Cond.instanceMethod yJ0_length_8abf5, Cond.selects RJ0 yJ0_length_8abf5 yJ0_length_8abf5, Cond.initialized RJ0, Cond.code yJ0_length_8abf5 cJ0_length_8abf5 1 (some .int), Cond.fieldLink RJ0 9 "java/lang/String" "value" "[B", Cond.methodLink RJ0 335 yJ0_coder_7d493, Cond.instanceMethod yJ0_coder_7d493]
def wsL_law_r4 : List Cond := [Cond.selects RJ0 yJ0_coder_7d493 yJ0_coder_7d493, Cond.code yJ0_coder_7d493 cJ0_coder_7d493 1 (some .byte), Cond.fieldLink RJ0 38 "java/lang/String" "COMPACT_STRINGS" "Z", Cond.fieldLink RJ0 15 "java/lang/String" "coder" "B", Cond.methodLink RX6 47 yJ0_charAt_5068e, Cond.instanceMethod yJ0_charAt_5068e, Cond.selects RJ0 yJ0_charAt_5068e yJ0_charAt_5068e, Cond.code yJ0_charAt_5068e cJ0_charAt_5068e 2 (some .char), Cond.methodLink RJ0 492 yJ0_isLatin1_aae02, Cond.instanceMethod yJ0_isLatin1_aae02, Cond.selects RJ0 yJ0_isLatin1_aae02 yJ0_isLatin1_aae02, Cond.code yJ0_isLatin1_aae02 cJ0_isLatin1_aae02 1 (some .boolean), Cond.methodLink RJ0 495 yJ1_charAt_3b067, Cond.static yJ1_charAt_3b067, Cond.initialized RJ1, Cond.code yJ1_charAt_3b067 cJ1_charAt_3b067 2 (some .char), Cond.methodLink RJ1 9 yJ0_checkIndex_df160, Cond.static yJ0_checkIndex_df160, Cond.code yJ0_checkIndex_df160 cJ0_checkIndex_df160 2 none, Cond.fieldLink RJ0 1053 "jdk/internal/util/Preconditions" "SIOOBE_FORMATTER" "Ljava/util/function/BiFunction;", Cond.methodLink RJ0 1059 yJ3_checkIndex_8e157, Cond.static yJ3_checkIndex_8e157, Cond.initialized RJ3, Cond.code yJ3_checkIndex_8e157 cJ3_checkIndex_8e157 3 (some .int)]
def wsL_law_r5 : List Cond := [Cond.methodLink RJ0 498 yJ2_charAt_3b067, Cond.static yJ2_charAt_3b067, Cond.initialized RJ2, Cond.code yJ2_charAt_3b067 cJ2_charAt_3b067 2 (some .char), Cond.methodLink RJ2 67 yJ2_checkIndex_2214a, Cond.static yJ2_checkIndex_2214a, Cond.code yJ2_checkIndex_2214a cJ2_checkIndex_2214a 2 none, Cond.methodLink RJ2 48 yJ2_length_9d52b, Cond.static yJ2_length_9d52b, Cond.code yJ2_length_9d52b cJ2_length_9d52b 1 (some .int), Cond.methodLink RJ2 414 yJ0_checkIndex_df160, Cond.methodLink RJ2 71 yJ2_getChar_3b067, Cond.static yJ2_getChar_3b067, Cond.code yJ2_getChar_3b067 cJ2_getChar_3b067 2 (some .char), Cond.fieldLink RJ2 44 "java/lang/StringUTF16" "$assertionsDisabled" "Z", Cond.fieldLink RJ2 59 "java/lang/StringUTF16" "HI_BYTE_SHIFT" "I", Cond.fieldLink RJ2 63 "java/lang/StringUTF16" "LO_BYTE_SHIFT" "I", Cond.methodLink RX6 51 yX4_put, Cond.instanceMethod yX4_put, Cond.selects RX4 yX4_put yX4_put, Cond.code yX4_put cX4_put 2 (some .boolean), Cond.fieldLink RX4 24 "StreetTillTen$Tape" "size" "I", Cond.methodLink RX6 57 yX1_init, Cond.instanceMethod yX1_init]
def wsL_law_r6 : List Cond := [Cond.code yX1_init cX1_init 3 none, Cond.methodLink RX1 3 objectInit, Cond.fieldLink RX1 9 "StreetTillTen$Reader" "tape" "LStreetTillTen$Tape;", Cond.fieldLink RX1 15 "StreetTillTen$Reader" "text" "LStreetTillTen$Text;", Cond.methodLink RX6 64 yX1_readInto, Cond.instanceMethod yX1_readInto, Cond.selects RX1 yX1_readInto yX1_readInto, Cond.code yX1_readInto cX1_readInto 2 (some .int), Cond.fieldLink RX1 29 "StreetTillTen$Reader" "at" "I", Cond.fieldLink RX1 33 "StreetTillTen$Tape" "tokens" "[I", Cond.fieldLink RX1 37 "StreetTillTen$Reader" "token" "I", Cond.fieldLink RX1 40 "StreetTillTen$Reader" "fault" "I", Cond.methodLink RX1 19 yX5_clear, Cond.instanceMethod yX5_clear, Cond.selects RX5 yX5_clear yX5_clear, Cond.code yX5_clear cX5_clear 1 none, Cond.fieldLink RX5 25 "StreetTillTen$Text" "size" "I", Cond.methodLink RX1 24 yX4_cut, Cond.instanceMethod yX4_cut, Cond.selects RX4 yX4_cut yX4_cut, Cond.code yX4_cut cX4_cut 2 none, Cond.fieldLink RX4 28 "StreetTillTen$Tape" "at" "I", Cond.methodLink RX4 31 yX4_isBlank, Cond.static yX4_isBlank]
def wsL_law_r7 : List Cond := [Cond.code yX4_isBlank cX4_isBlank 1 (some .boolean), Cond.methodLink RX4 35 yX4_isDigit, Cond.static yX4_isDigit, Cond.code yX4_isDigit cX4_isDigit 1 (some .boolean), Cond.methodLink RX4 38 yX4_cutNumber, Cond.instanceMethod yX4_cutNumber, Cond.selects RX4 yX4_cutNumber yX4_cutNumber, Cond.code yX4_cutNumber cX4_cutNumber 3 none, Cond.methodLink RX4 42 yX4_isSmall, Cond.static yX4_isSmall, Cond.code yX4_isSmall cX4_isSmall 1 (some .boolean), Cond.methodLink RX4 45 yX4_cutWord, Cond.instanceMethod yX4_cutWord, Cond.selects RX4 yX4_cutWord yX4_cutWord, Cond.code yX4_cutWord cX4_cutWord 3 none, Cond.methodLink RX4 48 yX4_nameFrom, Cond.instanceMethod yX4_nameFrom, Cond.selects RX4 yX4_nameFrom yX4_nameFrom, Cond.code yX4_nameFrom cX4_nameFrom 2 (some .int), Cond.methodLink RX4 59 yX4_reads, Cond.instanceMethod yX4_reads, Cond.selects RX4 yX4_reads yX4_reads, Cond.code yX4_reads cX4_reads 4 (some .boolean), Cond.methodLink RX4 85 yJ0_length_8abf5]
def wsL_law_r8 : List Cond := [Cond.methodLink RX4 91 yJ0_charAt_5068e, Cond.methodLink RX4 52 yX4_keyFrom, Cond.instanceMethod yX4_keyFrom, Cond.selects RX4 yX4_keyFrom yX4_keyFrom, Cond.code yX4_keyFrom cX4_keyFrom 2 (some .int), Cond.methodLink RX1 43 yX1_readPart, Cond.instanceMethod yX1_readPart, Cond.selects RX1 yX1_readPart yX1_readPart, Cond.code yX1_readPart cX1_readPart 3 none, Cond.methodLink RX1 50 yX1_expect, Cond.instanceMethod yX1_expect, Cond.selects RX1 yX1_expect yX1_expect, Cond.code yX1_expect cX1_expect 2 none, Cond.methodLink RX1 77 yX1_next, Cond.instanceMethod yX1_next, Cond.selects RX1 yX1_next yX1_next, Cond.code yX1_next cX1_next 1 none, Cond.methodLink RX1 47 yX1_fail, Cond.instanceMethod yX1_fail, Cond.selects RX1 yX1_fail yX1_fail, Cond.code yX1_fail cX1_fail 1 none, Cond.fieldLink RX1 83 "StreetTillTen$Tape" "starts" "[I", Cond.methodLink RX1 54 yX1_read, Cond.instanceMethod yX1_read]
def wsL_law_r9 : List Cond := [Cond.selects RX1 yX1_read yX1_read, Cond.code yX1_read cX1_read 6 none, Cond.methodLink RX1 60 yX1_readOne, Cond.instanceMethod yX1_readOne, Cond.selects RX1 yX1_readOne yX1_readOne, Cond.methodLink RX1 63 yX1_opens, Cond.instanceMethod yX1_opens, Cond.selects RX1 yX1_opens yX1_opens, Cond.code yX1_opens cX1_opens 2 (some .boolean), Cond.methodLink RX1 67 yX5_write, Cond.instanceMethod yX5_write, Cond.selects RX5 yX5_write yX5_write, Cond.code yX5_write cX5_write 2 none, Cond.methodLink RX1 70 yX1_levelOf, Cond.static yX1_levelOf, Cond.code yX1_levelOf cX1_levelOf 1 (some .int), Cond.methodLink RX1 74 yX1_operationOf, Cond.static yX1_operationOf, Cond.code yX1_operationOf cX1_operationOf 1 (some .int), Cond.code yX1_readOne cX1_readOne 2 none, Cond.fieldLink RX1 80 "StreetTillTen$Tape" "steps" "[I", Cond.methodLink RX1 57 yX5_endPart, Cond.instanceMethod yX5_endPart, Cond.selects RX5 yX5_endPart yX5_endPart]
def wsL_law_r10 : List Cond := [Cond.code yX5_endPart cX5_endPart 2 none, Cond.methodLink RX6 68 yX4_empty, Cond.instanceMethod yX4_empty, Cond.selects RX4 yX4_empty yX4_empty, Cond.code yX4_empty cX4_empty 1 none, Cond.methodLink RX6 77 yX3_init, Cond.instanceMethod yX3_init, Cond.code yX3_init cX3_init 2 none, Cond.methodLink RX3 3 objectInit, Cond.fieldLink RX3 9 "StreetTillTen$Street" "limit" "I", Cond.fieldLink RX3 15 "StreetTillTen$Street" "kind" "[I", Cond.fieldLink RX3 19 "StreetTillTen$Street" "number" "[I", Cond.fieldLink RX3 22 "StreetTillTen$Street" "table" "[I", Cond.classLink RX3 25 "[[I", Cond.fieldLink RX3 27 "StreetTillTen$Street" "strength" "[[I", Cond.fieldLink RX3 32 "StreetTillTen$Street" "names" "[I", Cond.fieldLink RX3 35 "StreetTillTen$Street" "rule" "LStreetTillTen$Text;", Cond.methodLink RL 12 yX7_init, Cond.instanceMethod yX7_init, Cond.code yX7_init cX7_init 1 none, Cond.methodLink RX7 7 objectInit, Cond.fieldLink RX7 13 "StreetTillTenModel" "texts" "[I", Cond.fieldLink RX7 17 "StreetTillTenModel" "textSize" "[I", Cond.fieldLink RX7 20 "StreetTillTenModel" "tape" "[I"]
def wsL_law_r11 : List Cond := [Cond.fieldLink RX7 23 "StreetTillTenModel" "limit" "I", Cond.fieldLink RX7 26 "StreetTillTenModel" "kinds" "[I", Cond.fieldLink RX7 29 "StreetTillTenModel" "numbers" "[I", Cond.fieldLink RX7 32 "StreetTillTenModel" "tables" "[I", Cond.fieldLink RX7 35 "StreetTillTenModel" "strengths" "[I", Cond.fieldLink RX7 38 "StreetTillTenModel" "extraA" "I", Cond.fieldLink RX7 41 "StreetTillTenModel" "extraB" "I", Cond.fieldLink RX7 44 "StreetTillTenModel" "gone" "I", Cond.fieldLink RX7 47 "StreetTillTenModel" "ways" "[I", Cond.fieldLink RX7 50 "StreetTillTenModel" "strengthsWas" "[I", Cond.fieldLink RX7 53 "StreetTillTenModel" "tablesWas" "[I", Cond.fieldLink RX7 56 "StreetTillTenModel" "numbersKept" "[I", Cond.fieldLink RX7 59 "StreetTillTenModel" "tablesKept" "[I", Cond.fieldLink RX7 62 "StreetTillTenModel" "strengthsKept" "[I", Cond.fieldLink RX7 65 "StreetTillTenModel" "manyKept" "I", Cond.arrayClass .boolean, Cond.fieldLink RX7 68 "StreetTillTenModel" "isThere" "[Z", Cond.fieldLink RX7 72 "StreetTillTenModel" "sorts" "[I", Cond.fieldLink RX7 75 "StreetTillTenModel" "sheetSize" "[I", Cond.fieldLink RX7 78 "StreetTillTenModel" "items" "[I", Cond.fieldLink RX7 85 "StreetTillTenModel" "textCount" "I", Cond.methodLink RX7 81 yX7_spell, Cond.instanceMethod yX7_spell, Cond.selects RX7 yX7_spell yX7_spell]
def wsL_law_r12 : List Cond := [Cond.code yX7_spell cX7_spell 10 none, Cond.methodLink RL 13 yX6_set, Cond.instanceMethod yX6_set, Cond.selects RX6 yX6_set yX6_set, Cond.code yX6_set cX6_set 5 (some .int), Cond.fieldLink RX6 93 "StreetTillTen" "LEAST_SETTING" "[I", Cond.fieldLink RX6 97 "StreetTillTen" "MOST_SETTING" "[I", Cond.fieldLink RX6 104 "StreetTillTen$Street" "year" "I", Cond.fieldLink RX6 107 "StreetTillTen$Street" "limit" "I", Cond.fieldLink RX6 110 "StreetTillTen$Street" "number" "[I", Cond.fieldLink RX6 113 "StreetTillTen$Street" "table" "[I", Cond.methodLink RX6 90 yX6_isHouse, Cond.instanceMethod yX6_isHouse, Cond.selects RX6 yX6_isHouse yX6_isHouse, Cond.code yX6_isHouse cX6_isHouse 2 (some .boolean), Cond.fieldLink RX6 195 "StreetTillTen$Street" "count" "I", Cond.methodLink RX6 100 yX6_setting, Cond.instanceMethod yX6_setting, Cond.selects RX6 yX6_setting yX6_setting, Cond.code yX6_setting cX6_setting 3 (some .int), Cond.methodLink RL 17 yX7_set, Cond.instanceMethod yX7_set, Cond.selects RX7 yX7_set yX7_set, Cond.code yX7_set cX7_set 5 (some .int)]
def wsL_law_r13 : List Cond := [Cond.constantLong RX7 97 (3), Cond.methodLink RX7 91 yX7_in, Cond.static yX7_in, Cond.code yX7_in cX7_in 6 (some .boolean), Cond.methodLink RX7 105 yX7_isHouse, Cond.instanceMethod yX7_isHouse, Cond.selects RX7 yX7_isHouse yX7_isHouse, Cond.code yX7_isHouse cX7_isHouse 2 (some .boolean), Cond.fieldLink RX7 88 "StreetTillTenModel" "many" "I", Cond.methodLink RX7 109 yX7_isValue, Cond.static yX7_isValue, Cond.code yX7_isValue cX7_isValue 2 (some .boolean), Cond.constantLong RX7 95 (-1), Cond.constantLong RX7 99 (999), Cond.constantLong RX7 101 (99), Cond.constantLong RX7 103 (9), Cond.methodLink RX7 113 yX7_told, Cond.instanceMethod yX7_told, Cond.selects RX7 yX7_told yX7_told, Cond.code yX7_told cX7_told 6 (some .int), Cond.constantLong RX7 142 (10), Cond.constantLong RX7 144 (17), Cond.constantLong RX7 146 (7), Cond.fieldLink RX7 121 "StreetTillTenModel" "yearNow" "I"]
def wsL_law_r14 : List Cond := [Cond.methodLink RX7 139 yX7_strengthOf, Cond.instanceMethod yX7_strengthOf, Cond.selects RX7 yX7_strengthOf yX7_strengthOf, Cond.code yX7_strengthOf cX7_strengthOf 3 (some .int), Cond.methodLink RX7 148 yX7_seatsOf, Cond.instanceMethod yX7_seatsOf, Cond.selects RX7 yX7_seatsOf yX7_seatsOf, Cond.code yX7_seatsOf cX7_seatsOf 4 (some .int), Cond.methodLink RX7 152 yX7_soundsOf, Cond.instanceMethod yX7_soundsOf, Cond.selects RX7 yX7_soundsOf yX7_soundsOf, Cond.code yX7_soundsOf cX7_soundsOf 4 (some .int), Cond.methodLink RX7 367 yX7_says, Cond.instanceMethod yX7_says, Cond.selects RX7 yX7_says yX7_says, Cond.code yX7_says cX7_says 4 (some .int), Cond.fieldLink RX7 216 "StreetTillTenModel" "ofStrength" "I", Cond.fieldLink RX7 219 "StreetTillTenModel" "ofNumber" "I", Cond.fieldLink RX7 222 "StreetTillTenModel" "ofOther" "I", Cond.fieldLink RX7 225 "StreetTillTenModel" "ofSeats" "I", Cond.fieldLink RX7 228 "StreetTillTenModel" "ofYear" "I", Cond.fieldLink RX7 231 "StreetTillTenModel" "ofApart" "I", Cond.fieldLink RX7 124 "StreetTillTenModel" "rule" "I", Cond.methodLink RX7 364 yX7_apart]
def wsL_law_r15 : List Cond := [Cond.static yX7_apart, Cond.code yX7_apart cX7_apart 2 (some .int), Cond.methodLink RX7 361 yX7_read, Cond.instanceMethod yX7_read, Cond.selects RX7 yX7_read yX7_read, Cond.code yX7_read cX7_read 6 (some .int), Cond.fieldLink RX7 166 "StreetTillTenModel" "from" "I", Cond.fieldLink RX7 163 "StreetTillTenModel" "size" "I", Cond.fieldLink RX7 169 "StreetTillTenModel" "here" "I", Cond.fieldLink RX7 203 "StreetTillTenModel" "open" "I", Cond.fieldLink RX7 193 "StreetTillTenModel" "bad" "Z", Cond.fieldLink RX7 178 "StreetTillTenModel" "token" "I", Cond.methodLink RX7 209 yX7_next, Cond.instanceMethod yX7_next, Cond.selects RX7 yX7_next yX7_next, Cond.code yX7_next cX7_next 3 none, Cond.fieldLink RX7 175 "StreetTillTenModel" "tokenAt" "I", Cond.constantLong RX7 181 (97), Cond.constantLong RX7 183 (122), Cond.constantLong RX7 185 (48), Cond.constantLong RX7 187 (57), Cond.fieldLink RX7 189 "StreetTillTenModel" "tokenWorth" "J", Cond.methodLink RX7 172 yX7_byteAt, Cond.instanceMethod yX7_byteAt]
def wsL_law_r16 : List Cond := [Cond.selects RX7 yX7_byteAt yX7_byteAt, Cond.code yX7_byteAt cX7_byteAt 2 (some .int), Cond.methodLink RX7 212 yX7_isWord, Cond.instanceMethod yX7_isWord, Cond.selects RX7 yX7_isWord yX7_isWord, Cond.code yX7_isWord cX7_isWord 9 (some .boolean), Cond.methodLink RX7 200 yX7_isLetter, Cond.instanceMethod yX7_isLetter, Cond.selects RX7 yX7_isLetter yX7_isLetter, Cond.code yX7_isLetter cX7_isLetter 3 (some .boolean), Cond.methodLink RX7 357 yX7_part, Cond.instanceMethod yX7_part, Cond.selects RX7 yX7_part yX7_part, Cond.code yX7_part cX7_part 3 (some .int), Cond.methodLink RX7 206 yX7_fail, Cond.instanceMethod yX7_fail, Cond.selects RX7 yX7_fail yX7_fail, Cond.code yX7_fail cX7_fail 1 none, Cond.fieldLink RX7 197 "StreetTillTenModel" "fault" "I", Cond.methodLink RX7 354 yX7_either0, Cond.instanceMethod yX7_either0, Cond.selects RX7 yX7_either0 yX7_either0, Cond.code yX7_either0 cX7_either0 3 (some .int), Cond.methodLink RX7 351 yX7_both0]
def wsL_law_r17 : List Cond := [Cond.instanceMethod yX7_both0, Cond.selects RX7 yX7_both0 yX7_both0, Cond.code yX7_both0 cX7_both0 3 (some .int), Cond.methodLink RX7 348 yX7_not0, Cond.instanceMethod yX7_not0, Cond.selects RX7 yX7_not0 yX7_not0, Cond.code yX7_not0 cX7_not0 4 (some .int), Cond.constantLong RX7 256 (60), Cond.methodLink RX7 237 yX7_opens, Cond.instanceMethod yX7_opens, Cond.selects RX7 yX7_opens yX7_opens, Cond.code yX7_opens cX7_opens 1 (some .boolean), Cond.methodLink RX7 330 yX7_not1, Cond.instanceMethod yX7_not1, Cond.selects RX7 yX7_not1 yX7_not1, Cond.code yX7_not1 cX7_not1 4 (some .int), Cond.methodLink RX7 312 yX7_not2, Cond.instanceMethod yX7_not2, Cond.selects RX7 yX7_not2 yX7_not2, Cond.code yX7_not2 cX7_not2 4 (some .int), Cond.methodLink RX7 294 yX7_not3, Cond.instanceMethod yX7_not3, Cond.selects RX7 yX7_not3 yX7_not3, Cond.code yX7_not3 cX7_not3 4 (some .int)]
def wsL_law_r18 : List Cond := [Cond.methodLink RX7 276 yX7_not4, Cond.instanceMethod yX7_not4, Cond.selects RX7 yX7_not4 yX7_not4, Cond.code yX7_not4 cX7_not4 4 (some .int), Cond.methodLink RX7 258 yX7_not5, Cond.instanceMethod yX7_not5, Cond.selects RX7 yX7_not5 yX7_not5, Cond.code yX7_not5 cX7_not5 4 (some .int), Cond.methodLink RX7 253 yX7_added5, Cond.instanceMethod yX7_added5, Cond.selects RX7 yX7_added5 yX7_added5, Cond.code yX7_added5 cX7_added5 4 (some .int), Cond.constantLong RX7 251 (43), Cond.methodLink RX7 248 yX7_term5, Cond.instanceMethod yX7_term5, Cond.selects RX7 yX7_term5 yX7_term5, Cond.code yX7_term5 cX7_term5 2 (some .int), Cond.methodLink RX7 245 yX7_atom5, Cond.instanceMethod yX7_atom5, Cond.selects RX7 yX7_atom5 yX7_atom5, Cond.code yX7_atom5 cX7_atom5 2 (some .int), Cond.methodLink RX7 234 yX7_isSign, Cond.instanceMethod yX7_isSign, Cond.selects RX7 yX7_isSign yX7_isSign]
def wsL_law_r19 : List Cond := [Cond.code yX7_isSign cX7_isSign 2 (some .boolean), Cond.methodLink RX7 241 yX7_name, Cond.instanceMethod yX7_name, Cond.selects RX7 yX7_name yX7_name, Cond.code yX7_name cX7_name 1 (some .int), Cond.methodLink RX7 273 yX7_added4, Cond.instanceMethod yX7_added4, Cond.selects RX7 yX7_added4 yX7_added4, Cond.code yX7_added4 cX7_added4 4 (some .int), Cond.methodLink RX7 270 yX7_term4, Cond.instanceMethod yX7_term4, Cond.selects RX7 yX7_term4 yX7_term4, Cond.code yX7_term4 cX7_term4 2 (some .int), Cond.methodLink RX7 267 yX7_atom4, Cond.instanceMethod yX7_atom4, Cond.selects RX7 yX7_atom4 yX7_atom4, Cond.code yX7_atom4 cX7_atom4 2 (some .int), Cond.methodLink RX7 264 yX7_either5, Cond.instanceMethod yX7_either5, Cond.selects RX7 yX7_either5 yX7_either5, Cond.code yX7_either5 cX7_either5 3 (some .int), Cond.methodLink RX7 261 yX7_both5, Cond.instanceMethod yX7_both5, Cond.selects RX7 yX7_both5 yX7_both5]
def wsL_law_r20 : List Cond := [Cond.code yX7_both5 cX7_both5 3 (some .int), Cond.methodLink RX7 291 yX7_added3, Cond.instanceMethod yX7_added3, Cond.selects RX7 yX7_added3 yX7_added3, Cond.code yX7_added3 cX7_added3 4 (some .int), Cond.methodLink RX7 288 yX7_term3, Cond.instanceMethod yX7_term3, Cond.selects RX7 yX7_term3 yX7_term3, Cond.code yX7_term3 cX7_term3 2 (some .int), Cond.methodLink RX7 285 yX7_atom3, Cond.instanceMethod yX7_atom3, Cond.selects RX7 yX7_atom3 yX7_atom3, Cond.code yX7_atom3 cX7_atom3 2 (some .int), Cond.methodLink RX7 282 yX7_either4, Cond.instanceMethod yX7_either4, Cond.selects RX7 yX7_either4 yX7_either4, Cond.code yX7_either4 cX7_either4 3 (some .int), Cond.methodLink RX7 279 yX7_both4, Cond.instanceMethod yX7_both4, Cond.selects RX7 yX7_both4 yX7_both4, Cond.code yX7_both4 cX7_both4 3 (some .int), Cond.methodLink RX7 309 yX7_added2, Cond.instanceMethod yX7_added2, Cond.selects RX7 yX7_added2 yX7_added2]
def wsL_law_r21 : List Cond := [Cond.code yX7_added2 cX7_added2 4 (some .int), Cond.methodLink RX7 306 yX7_term2, Cond.instanceMethod yX7_term2, Cond.selects RX7 yX7_term2 yX7_term2, Cond.code yX7_term2 cX7_term2 2 (some .int), Cond.methodLink RX7 303 yX7_atom2, Cond.instanceMethod yX7_atom2, Cond.selects RX7 yX7_atom2 yX7_atom2, Cond.code yX7_atom2 cX7_atom2 2 (some .int), Cond.methodLink RX7 300 yX7_either3, Cond.instanceMethod yX7_either3, Cond.selects RX7 yX7_either3 yX7_either3, Cond.code yX7_either3 cX7_either3 3 (some .int), Cond.methodLink RX7 297 yX7_both3, Cond.instanceMethod yX7_both3, Cond.selects RX7 yX7_both3 yX7_both3, Cond.code yX7_both3 cX7_both3 3 (some .int), Cond.methodLink RX7 327 yX7_added1, Cond.instanceMethod yX7_added1, Cond.selects RX7 yX7_added1 yX7_added1, Cond.code yX7_added1 cX7_added1 4 (some .int), Cond.methodLink RX7 324 yX7_term1, Cond.instanceMethod yX7_term1, Cond.selects RX7 yX7_term1 yX7_term1]
def wsL_law_r22 : List Cond := [Cond.code yX7_term1 cX7_term1 2 (some .int), Cond.methodLink RX7 321 yX7_atom1, Cond.instanceMethod yX7_atom1, Cond.selects RX7 yX7_atom1 yX7_atom1, Cond.code yX7_atom1 cX7_atom1 2 (some .int), Cond.methodLink RX7 318 yX7_either2, Cond.instanceMethod yX7_either2, Cond.selects RX7 yX7_either2 yX7_either2, Cond.code yX7_either2 cX7_either2 3 (some .int), Cond.methodLink RX7 315 yX7_both2, Cond.instanceMethod yX7_both2, Cond.selects RX7 yX7_both2 yX7_both2, Cond.code yX7_both2 cX7_both2 3 (some .int), Cond.methodLink RX7 345 yX7_added0, Cond.instanceMethod yX7_added0, Cond.selects RX7 yX7_added0 yX7_added0, Cond.code yX7_added0 cX7_added0 4 (some .int), Cond.methodLink RX7 342 yX7_term0, Cond.instanceMethod yX7_term0, Cond.selects RX7 yX7_term0 yX7_term0, Cond.code yX7_term0 cX7_term0 2 (some .int), Cond.methodLink RX7 339 yX7_atom0, Cond.instanceMethod yX7_atom0, Cond.selects RX7 yX7_atom0 yX7_atom0]
def wsL_law_r23 : List Cond := [Cond.code yX7_atom0 cX7_atom0 2 (some .int), Cond.methodLink RX7 336 yX7_either1, Cond.instanceMethod yX7_either1, Cond.selects RX7 yX7_either1 yX7_either1, Cond.code yX7_either1 cX7_either1 3 (some .int), Cond.methodLink RX7 333 yX7_both1, Cond.instanceMethod yX7_both1, Cond.selects RX7 yX7_both1 yX7_both1, Cond.code yX7_both1 cX7_both1 3 (some .int), Cond.methodLink RX7 127 yX7_within, Cond.static yX7_within, Cond.code yX7_within cX7_within 3 (some .int), Cond.methodLink RX7 155 yX7_knows, Cond.instanceMethod yX7_knows, Cond.selects RX7 yX7_knows yX7_knows, Cond.code yX7_knows cX7_knows 3 (some .boolean), Cond.methodLink RX7 117 yX7_lays, Cond.instanceMethod yX7_lays, Cond.selects RX7 yX7_lays yX7_lays, Cond.code yX7_lays cX7_lays 4 none, Cond.methodLink RL 18 yX6_house, Cond.instanceMethod yX6_house, Cond.selects RX6 yX6_house yX6_house, Cond.code yX6_house cX6_house 3 (some .int)]
def wsL_law_r24 : List Cond := [Cond.methodLink RX6 116 yX6_settle, Cond.instanceMethod yX6_settle, Cond.selects RX6 yX6_settle yX6_settle, Cond.code yX6_settle cX6_settle 3 (some .int), Cond.methodLink RX6 283 yX3_add, Cond.instanceMethod yX3_add, Cond.selects RX3 yX3_add yX3_add, Cond.code yX3_add cX3_add 3 none, Cond.fieldLink RX3 42 "StreetTillTen$Street" "count" "I", Cond.methodLink RL 22 yX7_house, Cond.instanceMethod yX7_house, Cond.selects RX7 yX7_house yX7_house, Cond.code yX7_house cX7_house 4 (some .int), Cond.constantLong RX7 131 (5), Cond.methodLink RX7 133 yX7_binds, Cond.instanceMethod yX7_binds, Cond.selects RX7 yX7_binds yX7_binds, Cond.code yX7_binds cX7_binds 5 none, Cond.methodLink RL 23 yX6_bind, Cond.instanceMethod yX6_bind, Cond.selects RX6 yX6_bind yX6_bind, Cond.code yX6_bind cX6_bind 5 (some .int), Cond.fieldLink RX6 123 "StreetTillTen$Street" "strength" "[[I", Cond.methodLink RX6 119 yX6_isTwo]
def wsL_law_r25 : List Cond := [Cond.instanceMethod yX6_isTwo, Cond.selects RX6 yX6_isTwo yX6_isTwo, Cond.code yX6_isTwo cX6_isTwo 3 (some .boolean), Cond.methodLink RX6 127 yX3_tie, Cond.instanceMethod yX3_tie, Cond.selects RX3 yX3_tie yX3_tie, Cond.code yX3_tie cX3_tie 4 none, Cond.methodLink RL 26 yX7_bind, Cond.instanceMethod yX7_bind, Cond.selects RX7 yX7_bind yX7_bind, Cond.code yX7_bind cX7_bind 5 (some .int), Cond.methodLink RX7 136 yX7_areTwo, Cond.instanceMethod yX7_areTwo, Cond.selects RX7 yX7_areTwo yX7_areTwo, Cond.code yX7_areTwo cX7_areTwo 3 (some .boolean), Cond.methodLink RL 27 yX6_told, Cond.instanceMethod yX6_told, Cond.selects RX6 yX6_told yX6_told, Cond.code yX6_told cX6_told 4 (some .int), Cond.fieldLink RX6 131 "StreetTillTen$Street" "kind" "[I", Cond.methodLink RX6 134 yX3_acquaintances, Cond.instanceMethod yX3_acquaintances, Cond.selects RX3 yX3_acquaintances yX3_acquaintances, Cond.code yX3_acquaintances cX3_acquaintances 4 (some .int)]
def wsL_law_r26 : List Cond := [Cond.methodLink RX3 51 yX3_knows, Cond.instanceMethod yX3_knows, Cond.selects RX3 yX3_knows yX3_knows, Cond.code yX3_knows cX3_knows 3 (some .boolean), Cond.methodLink RX6 138 yX3_seatsAt, Cond.instanceMethod yX3_seatsAt, Cond.selects RX3 yX3_seatsAt yX3_seatsAt, Cond.code yX3_seatsAt cX3_seatsAt 4 (some .int), Cond.methodLink RX6 141 yX3_sounds, Cond.instanceMethod yX3_sounds, Cond.selects RX3 yX3_sounds yX3_sounds, Cond.code yX3_sounds cX3_sounds 3 (some .int), Cond.methodLink RX3 59 yX3_look, Cond.instanceMethod yX3_look, Cond.selects RX3 yX3_look yX3_look, Cond.code yX3_look cX3_look 3 none, Cond.fieldLink RX3 39 "StreetTillTen$Street" "year" "I", Cond.methodLink RX3 67 Lib.Math.abs.name, Cond.static Lib.Math.abs.name, Cond.initialized "java/lang/Math", Cond.code Lib.Math.abs.name Lib.Math.abs.code 1 (some .int), Cond.methodLink RX3 55 yX3_seatsAt, Cond.methodLink RX3 63 yX5_value, Cond.instanceMethod yX5_value]
def wsL_law_r27 : List Cond := [Cond.selects RX5 yX5_value yX5_value, Cond.code yX5_value cX5_value 7 (some .int), Cond.methodLink RX5 36 Lib.Math.min.name, Cond.static Lib.Math.min.name, Cond.code Lib.Math.min.name Lib.Math.min.code 2 (some .int), Cond.methodLink RX5 41 Lib.Math.max.name, Cond.static Lib.Math.max.name, Cond.code Lib.Math.max.name Lib.Math.max.code 2 (some .int), Cond.methodLink RX5 28 yX5_turned, Cond.static yX5_turned, Cond.code yX5_turned cX5_turned 2 (some .int), Cond.methodLink RX5 32 yX5_joined, Cond.static yX5_joined, Cond.code yX5_joined cX5_joined 3 (some .int), Cond.methodLink RL 30 yX7_told, Cond.methodLink RL 31 yX6_feed, Cond.instanceMethod yX6_feed, Cond.selects RX6 yX6_feed yX6_feed, Cond.code yX6_feed cX6_feed 2 (some .int), Cond.fieldLink RX6 144 "StreetTillTen$Tape" "size" "I", Cond.methodLink RL 35 yX7_feed, Cond.instanceMethod yX7_feed, Cond.selects RX7 yX7_feed yX7_feed, Cond.code yX7_feed cX7_feed 2 (some .int)]
def wsL_law_r28 : List Cond := [Cond.constantLong RX7 158 (255), Cond.fieldLink RX7 160 "StreetTillTenModel" "taped" "I", Cond.methodLink RL 36 yX6_text, Cond.instanceMethod yX6_text, Cond.selects RX6 yX6_text yX6_text, Cond.code yX6_text cX6_text 2 (some .int), Cond.methodLink RL 40 yX7_text, Cond.instanceMethod yX7_text, Cond.selects RX7 yX7_text yX7_text, Cond.code yX7_text cX7_text 2 (some .int), Cond.methodLink RL 41 yX6_force, Cond.instanceMethod yX6_force, Cond.selects RX6 yX6_force yX6_force, Cond.code yX6_force cX6_force 3 (some .int), Cond.fieldLink RX6 147 "StreetTillTen$Street" "rule" "LStreetTillTen$Text;", Cond.fieldLink RX6 151 "StreetTillTen$Text" "place" "I", Cond.methodLink RL 44 yX7_force, Cond.instanceMethod yX7_force, Cond.selects RX7 yX7_force yX7_force, Cond.code yX7_force cX7_force 3 (some .int), Cond.methodLink RL 45 yX6_asks, Cond.instanceMethod yX6_asks, Cond.selects RX6 yX6_asks yX6_asks, Cond.code yX6_asks cX6_asks 4 (some .int)]
def wsL_law_r29 : List Cond := [Cond.methodLink RX6 154 yX6_isEither, Cond.static yX6_isEither, Cond.code yX6_isEither cX6_isEither 1 (some .boolean), Cond.methodLink RX6 157 yX3_meets, Cond.instanceMethod yX3_meets, Cond.selects RX3 yX3_meets yX3_meets, Cond.code yX3_meets cX3_meets 4 (some .int), Cond.methodLink RX6 160 yX3_forgets, Cond.instanceMethod yX3_forgets, Cond.selects RX3 yX3_forgets yX3_forgets, Cond.code yX3_forgets cX3_forgets 4 (some .int), Cond.methodLink RL 48 yX7_asks, Cond.instanceMethod yX7_asks, Cond.selects RX7 yX7_asks yX7_asks, Cond.code yX7_asks cX7_asks 4 (some .int), Cond.methodLink RX7 370 yX7_meetsOf, Cond.instanceMethod yX7_meetsOf, Cond.selects RX7 yX7_meetsOf yX7_meetsOf, Cond.code yX7_meetsOf cX7_meetsOf 5 (some .int), Cond.methodLink RX7 373 yX7_fadesOf, Cond.instanceMethod yX7_fadesOf, Cond.selects RX7 yX7_fadesOf yX7_fadesOf, Cond.code yX7_fadesOf cX7_fadesOf 5 (some .int), Cond.methodLink RL 49 yX6_feast]
def wsL_law_r30 : List Cond := [Cond.instanceMethod yX6_feast, Cond.selects RX6 yX6_feast yX6_feast, Cond.code yX6_feast cX6_feast 1 (some .int), Cond.methodLink RX6 163 yX3_holdFeast, Cond.instanceMethod yX3_holdFeast, Cond.selects RX3 yX3_holdFeast yX3_holdFeast, Cond.code yX3_holdFeast cX3_holdFeast 4 none, Cond.methodLink RX3 76 Lib.Math.min.name, Cond.methodLink RX3 72 yX3_meets, Cond.methodLink RX3 79 yX3_tie, Cond.methodLink RX6 166 yX3_friends, Cond.instanceMethod yX3_friends, Cond.selects RX3 yX3_friends yX3_friends, Cond.code yX3_friends cX3_friends 4 (some .int), Cond.methodLink RL 52 yX7_feast, Cond.instanceMethod yX7_feast, Cond.selects RX7 yX7_feast yX7_feast, Cond.code yX7_feast cX7_feast 1 (some .int), Cond.methodLink RX7 376 yX7_feasts, Cond.instanceMethod yX7_feasts, Cond.selects RX7 yX7_feasts yX7_feasts, Cond.code yX7_feasts cX7_feasts 4 none, Cond.methodLink RX7 379 yX7_friends, Cond.instanceMethod yX7_friends]
def wsL_law_r31 : List Cond := [Cond.selects RX7 yX7_friends yX7_friends, Cond.code yX7_friends cX7_friends 4 (some .int), Cond.methodLink RL 53 yX6_year, Cond.instanceMethod yX6_year, Cond.selects RX6 yX6_year yX6_year, Cond.code yX6_year cX6_year 1 (some .int), Cond.methodLink RX6 169 yX3_endYear, Cond.instanceMethod yX3_endYear, Cond.selects RX3 yX3_endYear yX3_endYear, Cond.code yX3_endYear cX3_endYear 4 none, Cond.methodLink RX3 86 Lib.Math.max.name, Cond.methodLink RX3 83 yX3_forgets, Cond.methodLink RL 56 yX7_year, Cond.instanceMethod yX7_year, Cond.selects RX7 yX7_year yX7_year, Cond.code yX7_year cX7_year 1 (some .int), Cond.methodLink RX7 382 yX7_fades, Cond.instanceMethod yX7_fades, Cond.selects RX7 yX7_fades yX7_fades, Cond.code yX7_fades cX7_fades 4 none, Cond.methodLink RL 57 yX6_street, Cond.instanceMethod yX6_street, Cond.selects RX6 yX6_street yX6_street, Cond.code yX6_street cX6_street 2 (some .int)]
def wsL_law_r32 : List Cond := [Cond.methodLink RX6 172 yX6_figure, Cond.instanceMethod yX6_figure, Cond.selects RX6 yX6_figure yX6_figure, Cond.code yX6_figure cX6_figure 3 (some .int), Cond.methodLink RX6 176 yX0_see, Cond.instanceMethod yX0_see, Cond.selects RX0 yX0_see yX0_see, Cond.code yX0_see cX0_see 4 none, Cond.fieldLink RX0 15 "StreetTillTen$Street" "count" "I", Cond.fieldLink RX0 21 "StreetTillTen$Circle" "count" "I", Cond.methodLink RX0 22 yX3_knows, Cond.methodLink RX6 201 yX0_everyone, Cond.instanceMethod yX0_everyone, Cond.selects RX0 yX0_everyone yX0_everyone, Cond.code yX0_everyone cX0_everyone 1 (some .int), Cond.methodLink RX6 204 yX0_companies, Cond.instanceMethod yX0_companies, Cond.selects RX0 yX0_companies yX0_companies, Cond.code yX0_companies cX0_companies 5 (some .int), Cond.methodLink RX0 26 yX0_companyOf, Cond.instanceMethod yX0_companyOf, Cond.selects RX0 yX0_companyOf yX0_companyOf, Cond.code yX0_companyOf cX0_companyOf 5 (some .int), Cond.methodLink RX0 45 yX0_further]
def wsL_law_r33 : List Cond := [Cond.instanceMethod yX0_further, Cond.selects RX0 yX0_further yX0_further, Cond.code yX0_further cX0_further 4 (some .int), Cond.methodLink RX6 286 yX0_largestCompany, Cond.instanceMethod yX0_largestCompany, Cond.selects RX0 yX0_largestCompany yX0_largestCompany, Cond.code yX0_largestCompany cX0_largestCompany 3 (some .int), Cond.methodLink RX0 40 Lib.Math.max.name, Cond.methodLink RX0 30 yX0_everyone, Cond.methodLink RX0 34 yJ6_bitCount_0f7a4, Cond.static yJ6_bitCount_0f7a4, Cond.initialized RJ6, Cond.code yJ6_bitCount_0f7a4 cJ6_bitCount_0f7a4 1 (some .int), Cond.constant RJ6 265 (1431655765), Cond.constant RJ6 266 (858993459), Cond.constant RJ6 267 (252645135), Cond.methodLink RX6 289 yX3_allStrength, Cond.instanceMethod yX3_allStrength, Cond.selects RX3 yX3_allStrength yX3_allStrength, Cond.code yX3_allStrength cX3_allStrength 4 (some .int), Cond.methodLink RX6 207 yX0_longestWay, Cond.instanceMethod yX0_longestWay, Cond.selects RX0 yX0_longestWay yX0_longestWay, Cond.code yX0_longestWay cX0_longestWay 6 (some .int)]
def wsL_law_r34 : List Cond := [Cond.methodLink RX0 48 yX0_distance, Cond.instanceMethod yX0_distance, Cond.selects RX0 yX0_distance yX0_distance, Cond.code yX0_distance cX0_distance 5 (some .int), Cond.methodLink RX6 292 yX3_quietTable, Cond.instanceMethod yX3_quietTable, Cond.selects RX3 yX3_quietTable yX3_quietTable, Cond.code yX3_quietTable cX3_quietTable 5 (some .int), Cond.methodLink RX3 99 yX3_dinAt, Cond.instanceMethod yX3_dinAt, Cond.selects RX3 yX3_dinAt yX3_dinAt, Cond.code yX3_dinAt cX3_dinAt 4 (some .int), Cond.methodLink RX3 102 yX3_sounds, Cond.methodLink RL 60 yX7_street, Cond.instanceMethod yX7_street, Cond.selects RX7 yX7_street yX7_street, Cond.code yX7_street cX7_street 2 (some .int), Cond.methodLink RX7 400 yX7_quietest, Cond.instanceMethod yX7_quietest, Cond.selects RX7 yX7_quietest yX7_quietest, Cond.code yX7_quietest cX7_quietest 7 (some .int), Cond.methodLink RX7 403 yX7_tellsOf, Cond.instanceMethod yX7_tellsOf, Cond.selects RX7 yX7_tellsOf yX7_tellsOf]
def wsL_law_r35 : List Cond := [Cond.code yX7_tellsOf cX7_tellsOf 2 (some .int), Cond.methodLink RX7 385 yX7_waysAll, Cond.instanceMethod yX7_waysAll, Cond.selects RX7 yX7_waysAll yX7_waysAll, Cond.code yX7_waysAll cX7_waysAll 7 none, Cond.methodLink RX7 388 yX7_companies, Cond.instanceMethod yX7_companies, Cond.selects RX7 yX7_companies yX7_companies, Cond.code yX7_companies cX7_companies 5 (some .int), Cond.methodLink RX7 391 yX7_largest, Cond.instanceMethod yX7_largest, Cond.selects RX7 yX7_largest yX7_largest, Cond.code yX7_largest cX7_largest 5 (some .int), Cond.methodLink RX7 394 yX7_strengthAll, Cond.instanceMethod yX7_strengthAll, Cond.selects RX7 yX7_strengthAll yX7_strengthAll, Cond.code yX7_strengthAll cX7_strengthAll 4 (some .int), Cond.methodLink RX7 397 yX7_longest, Cond.instanceMethod yX7_longest, Cond.selects RX7 yX7_longest yX7_longest, Cond.code yX7_longest cX7_longest 6 (some .int), Cond.methodLink RL 61 yX6_way, Cond.instanceMethod yX6_way, Cond.selects RX6 yX6_way yX6_way]
def wsL_law_r36 : List Cond := [Cond.code yX6_way cX6_way 3 (some .int), Cond.methodLink RX6 180 yX0_distance, Cond.methodLink RL 64 yX7_way, Cond.instanceMethod yX7_way, Cond.selects RX7 yX7_way yX7_way, Cond.code yX7_way cX7_way 3 (some .int), Cond.methodLink RL 65 yX6_run, Cond.instanceMethod yX6_run, Cond.selects RX6 yX6_run yX6_run, Cond.code yX6_run cX6_run 3 (some .int), Cond.methodLink RX6 183 yX6_isYears, Cond.static yX6_isYears, Cond.code yX6_isYears cX6_isYears 1 (some .boolean), Cond.methodLink RX6 186 yX3_become, Cond.instanceMethod yX3_become, Cond.selects RX3 yX3_become yX3_become, Cond.code yX3_become cX3_become 3 none, Cond.methodLink RX3 45 arraycopyName, Cond.native arraycopyName, Cond.static arraycopyName, Cond.initialized "java/lang/System", Cond.methodLink RX6 189 yX3_pass, Cond.instanceMethod yX3_pass, Cond.selects RX3 yX3_pass yX3_pass]
def wsL_law_r37 : List Cond := [Cond.code yX3_pass cX3_pass 3 (some .int), Cond.methodLink RX3 89 yX3_holdFeast, Cond.methodLink RX3 92 yX3_endYear, Cond.methodLink RX3 95 yX3_friends, Cond.methodLink RL 68 yX7_run, Cond.instanceMethod yX7_run, Cond.selects RX7 yX7_run yX7_run, Cond.code yX7_run cX7_run 4 (some .int), Cond.constantLong RX7 409 (20), Cond.constantLong RX7 411 (4), Cond.methodLink RX7 413 yX7_laysAside, Cond.instanceMethod yX7_laysAside, Cond.selects RX7 yX7_laysAside yX7_laysAside, Cond.code yX7_laysAside cX7_laysAside 2 none, Cond.fieldLink RX7 406 "StreetTillTenModel" "yearWas" "I", Cond.methodLink RX7 416 yX7_lives, Cond.instanceMethod yX7_lives, Cond.selects RX7 yX7_lives yX7_lives, Cond.code yX7_lives cX7_lives 3 none, Cond.methodLink RX7 420 yX7_laysBack, Cond.instanceMethod yX7_laysBack, Cond.selects RX7 yX7_laysBack yX7_laysBack, Cond.code yX7_laysBack cX7_laysBack 2 none, Cond.methodLink RL 69 yX6_takes]
def wsL_law_r38 : List Cond := [Cond.instanceMethod yX6_takes, Cond.selects RX6 yX6_takes yX6_takes, Cond.code yX6_takes cX6_takes 4 (some .int), Cond.methodLink RX6 192 yX6_isFriends, Cond.static yX6_isFriends, Cond.code yX6_isFriends cX6_isFriends 1 (some .boolean), Cond.methodLink RL 72 yX7_takes, Cond.instanceMethod yX7_takes, Cond.selects RX7 yX7_takes yX7_takes, Cond.code yX7_takes cX7_takes 3 (some .int), Cond.constantLong RX7 423 (28), Cond.methodLink RL 73 yX6_best, Cond.instanceMethod yX6_best, Cond.selects RX6 yX6_best yX6_best, Cond.code yX6_best cX6_best 8 (some .int), Cond.methodLink RL 76 yX7_best, Cond.instanceMethod yX7_best, Cond.selects RX7 yX7_best yX7_best, Cond.code yX7_best cX7_best 9 (some .int), Cond.methodLink RX7 425 yX7_friendsBehind, Cond.instanceMethod yX7_friendsBehind, Cond.selects RX7 yX7_friendsBehind yX7_friendsBehind, Cond.code yX7_friendsBehind cX7_friendsBehind 3 (some .int), Cond.methodLink RL 77 yX6_change]
def wsL_law_r39 : List Cond := [Cond.instanceMethod yX6_change, Cond.selects RX6 yX6_change yX6_change, Cond.code yX6_change cX6_change 8 (some .int), Cond.methodLink RX6 198 yX6_canChange, Cond.instanceMethod yX6_canChange, Cond.selects RX6 yX6_canChange yX6_canChange, Cond.code yX6_canChange cX6_canChange 5 (some .boolean), Cond.methodLink RL 80 yX7_change, Cond.instanceMethod yX7_change, Cond.selects RX7 yX7_change yX7_change, Cond.code yX7_change cX7_change 10 (some .int), Cond.methodLink RL 81 yX6_split, Cond.instanceMethod yX6_split, Cond.selects RX6 yX6_split yX6_split, Cond.code yX6_split cX6_split 8 (some .int), Cond.methodLink RL 84 yX7_split, Cond.instanceMethod yX7_split, Cond.selects RX7 yX7_split yX7_split, Cond.code yX7_split cX7_split 7 (some .int), Cond.constantLong RX7 428 (2), Cond.methodLink RX7 430 yX7_clears, Cond.instanceMethod yX7_clears, Cond.selects RX7 yX7_clears yX7_clears, Cond.code yX7_clears cX7_clears 2 none]
def wsL_law_r40 : List Cond := [Cond.methodLink RX7 433 yX7_sitsAgain, Cond.instanceMethod yX7_sitsAgain, Cond.selects RX7 yX7_sitsAgain yX7_sitsAgain, Cond.code yX7_sitsAgain cX7_sitsAgain 2 none, Cond.methodLink RL 85 yX6_missed, Cond.instanceMethod yX6_missed, Cond.selects RX6 yX6_missed yX6_missed, Cond.code yX6_missed cX6_missed 6 (some .int), Cond.methodLink RL 88 yX7_missed, Cond.instanceMethod yX7_missed, Cond.selects RX7 yX7_missed yX7_missed, Cond.code yX7_missed cX7_missed 6 (some .int), Cond.methodLink RL 89 yX6_match, Cond.instanceMethod yX6_match, Cond.selects RX6 yX6_match yX6_match, Cond.code yX6_match cX6_match 7 (some .int), Cond.methodLink RX6 210 yX3_knows, Cond.methodLink RX6 213 yX0_turn, Cond.instanceMethod yX0_turn, Cond.selects RX0 yX0_turn yX0_turn, Cond.code yX0_turn cX0_turn 3 none, Cond.methodLink RL 92 yX7_match, Cond.instanceMethod yX7_match, Cond.selects RX7 yX7_match yX7_match]
def wsL_law_r41 : List Cond := [Cond.code yX7_match cX7_match 7 (some .int), Cond.methodLink RL 93 yX6_tells, Cond.instanceMethod yX6_tells, Cond.selects RX6 yX6_tells yX6_tells, Cond.code yX6_tells cX6_tells 5 (some .int), Cond.fieldLink RX6 224 "StreetTillTen$Sheet" "size" "I", Cond.methodLink RX6 217 yX6_isSheet, Cond.static yX6_isSheet, Cond.code yX6_isSheet cX6_isSheet 1 (some .boolean), Cond.methodLink RX6 220 yX2_isMissing, Cond.instanceMethod yX2_isMissing, Cond.selects RX2 yX2_isMissing yX2_isMissing, Cond.code yX2_isMissing cX2_isMissing 1 (some .boolean), Cond.methodLink RX6 225 yX6_otherwise, Cond.instanceMethod yX6_otherwise, Cond.selects RX6 yX6_otherwise yX6_otherwise, Cond.code yX6_otherwise cX6_otherwise 3 (some .int), Cond.methodLink RX6 301 yX2_unlikeItems, Cond.instanceMethod yX2_unlikeItems, Cond.selects RX2 yX2_unlikeItems yX2_unlikeItems, Cond.code yX2_unlikeItems cX2_unlikeItems 4 (some .int), Cond.fieldLink RX2 19 "StreetTillTen$Sheet" "size" "I", Cond.methodLink RX6 229 yX6_limits, Cond.instanceMethod yX6_limits]
def wsL_law_r42 : List Cond := [Cond.selects RX6 yX6_limits yX6_limits, Cond.code yX6_limits cX6_limits 5 (some .int), Cond.methodLink RX6 311 yX6_fits, Cond.instanceMethod yX6_fits, Cond.selects RX6 yX6_fits yX6_fits, Cond.code yX6_fits cX6_fits 6 (some .boolean), Cond.fieldLink RX6 268 "StreetTillTen$Sheet" "items" "[I", Cond.methodLink RX6 232 yX6_leastLimit, Cond.instanceMethod yX6_leastLimit, Cond.selects RX6 yX6_leastLimit yX6_leastLimit, Cond.code yX6_leastLimit cX6_leastLimit 4 (some .int), Cond.methodLink RX6 235 yX6_possible, Cond.instanceMethod yX6_possible, Cond.selects RX6 yX6_possible yX6_possible, Cond.code yX6_possible cX6_possible 7 (some .int), Cond.methodLink RX6 305 yX6_choices, Cond.instanceMethod yX6_choices, Cond.selects RX6 yX6_choices yX6_choices, Cond.code yX6_choices cX6_choices 2 (some .int), Cond.methodLink RX6 308 yX6_suppose, Cond.instanceMethod yX6_suppose, Cond.selects RX6 yX6_suppose yX6_suppose, Cond.code yX6_suppose cX6_suppose 4 none, Cond.methodLink RL 96 yX7_tells]
def wsL_law_r43 : List Cond := [Cond.instanceMethod yX7_tells, Cond.selects RX7 yX7_tells yX7_tells, Cond.code yX7_tells cX7_tells 9 (some .int), Cond.constantLong RX7 439 (6), Cond.methodLink RX7 436 yX7_isSheet, Cond.static yX7_isSheet, Cond.code yX7_isSheet cX7_isSheet 1 (some .boolean), Cond.methodLink RX7 441 yX7_unlike, Cond.instanceMethod yX7_unlike, Cond.selects RX7 yX7_unlike yX7_unlike, Cond.code yX7_unlike cX7_unlike 5 (some .int), Cond.methodLink RX7 444 yX7_limitsBy, Cond.instanceMethod yX7_limitsBy, Cond.selects RX7 yX7_limitsBy yX7_limitsBy, Cond.code yX7_limitsBy cX7_limitsBy 9 (some .int), Cond.methodLink RL 97 yX6_film, Cond.instanceMethod yX6_film, Cond.selects RX6 yX6_film yX6_film, Cond.code yX6_film cX6_film 5 (some .int), Cond.methodLink RX6 239 yX2_lay, Cond.instanceMethod yX2_lay, Cond.selects RX2 yX2_lay yX2_lay, Cond.code yX2_lay cX2_lay 4 none, Cond.methodLink RX6 242 yX2_put]
def wsL_law_r44 : List Cond := [Cond.instanceMethod yX2_put, Cond.selects RX2 yX2_put yX2_put, Cond.code yX2_put cX2_put 3 none, Cond.methodLink RL 100 yX7_film, Cond.instanceMethod yX7_film, Cond.selects RX7 yX7_film yX7_film, Cond.code yX7_film cX7_film 4 (some .int), Cond.methodLink RX7 448 yX7_sheet, Cond.instanceMethod yX7_sheet, Cond.selects RX7 yX7_sheet yX7_sheet, Cond.code yX7_sheet cX7_sheet 5 (some .int), Cond.methodLink RL 101 yX6_drawn, Cond.instanceMethod yX6_drawn, Cond.selects RX6 yX6_drawn yX6_drawn, Cond.code yX6_drawn cX6_drawn 3 (some .int), Cond.methodLink RX6 244 yX6_friendsDrawn, Cond.instanceMethod yX6_friendsDrawn, Cond.selects RX6 yX6_friendsDrawn yX6_friendsDrawn, Cond.code yX6_friendsDrawn cX6_friendsDrawn 5 (some .int), Cond.constant RX6 295 (1103515245), Cond.methodLink RL 104 yX7_drawn, Cond.instanceMethod yX7_drawn, Cond.selects RX7 yX7_drawn yX7_drawn, Cond.code yX7_drawn cX7_drawn 3 (some .int)]
def wsL_law_r45 : List Cond := [Cond.methodLink RX7 452 yX7_friendsBy, Cond.instanceMethod yX7_friendsBy, Cond.selects RX7 yX7_friendsBy yX7_friendsBy, Cond.code yX7_friendsBy cX7_friendsBy 5 (some .int), Cond.constant RX7 451 (1103515245), Cond.methodLink RL 105 yX6_chance, Cond.instanceMethod yX6_chance, Cond.selects RX6 yX6_chance yX6_chance, Cond.code yX6_chance cX6_chance 7 (some .long), Cond.constantLong RX6 247 (-4611686018427387904), Cond.methodLink RX6 249 yX6_commonDivisor, Cond.static yX6_commonDivisor, Cond.code yX6_commonDivisor cX6_commonDivisor 6 (some .int), Cond.methodLink RX6 296 Lib.Math.max.name, Cond.methodLink RL 109 yX7_chance, Cond.instanceMethod yX7_chance, Cond.selects RX7 yX7_chance yX7_chance, Cond.code yX7_chance cX7_chance 13 (some .long), Cond.constantLong RX7 455 (-4611686018427387904), Cond.methodLink RL 110 yX6_image, Cond.instanceMethod yX6_image, Cond.selects RX6 yX6_image yX6_image, Cond.code yX6_image cX6_image 1 (some .int), Cond.fieldLink RX6 252 "StreetTillTen" "hasImage" "Z"]
def wsL_law_r46 : List Cond := [Cond.methodLink RL 113 yX7_image, Cond.instanceMethod yX7_image, Cond.selects RX7 yX7_image yX7_image, Cond.code yX7_image cX7_image 2 (some .int), Cond.fieldLink RX7 457 "StreetTillTenModel" "yearKept" "I", Cond.fieldLink RX7 460 "StreetTillTenModel" "limitKept" "I", Cond.fieldLink RX7 463 "StreetTillTenModel" "ruleKept" "I", Cond.methodLink RL 114 yX6_back, Cond.instanceMethod yX6_back, Cond.selects RX6 yX6_back yX6_back, Cond.code yX6_back cX6_back 1 (some .int), Cond.methodLink RL 117 yX7_back, Cond.instanceMethod yX7_back, Cond.selects RX7 yX7_back yX7_back, Cond.code yX7_back cX7_back 2 (some .int), Cond.methodLink RL 118 yX6_count, Cond.instanceMethod yX6_count, Cond.selects RX6 yX6_count yX6_count, Cond.code yX6_count cX6_count 2 (some .int), Cond.methodLink RX6 256 yX3_seated, Cond.instanceMethod yX3_seated, Cond.selects RX3 yX3_seated yX3_seated, Cond.code yX3_seated cX3_seated 3 (some .int), Cond.methodLink RL 121 yX7_count]
def wsL_law_r47 : List Cond := [Cond.instanceMethod yX7_count, Cond.selects RX7 yX7_count yX7_count, Cond.code yX7_count cX7_count 4 (some .int), Cond.methodLink RL 122 yX6_sheet, Cond.instanceMethod yX6_sheet, Cond.selects RX6 yX6_sheet yX6_sheet, Cond.code yX6_sheet cX6_sheet 4 (some .int), Cond.methodLink RX6 259 yX6_isSort, Cond.static yX6_isSort, Cond.code yX6_isSort cX6_isSort 1 (some .boolean), Cond.methodLink RL 125 yX7_sheet, Cond.methodLink RL 126 yX6_cell, Cond.instanceMethod yX6_cell, Cond.selects RX6 yX6_cell yX6_cell, Cond.code yX6_cell cX6_cell 5 (some .int), Cond.methodLink RX6 262 yX2_holds, Cond.instanceMethod yX2_holds, Cond.selects RX2 yX2_holds yX2_holds, Cond.code yX2_holds cX2_holds 3 (some .boolean), Cond.methodLink RL 129 yX7_cell, Cond.instanceMethod yX7_cell, Cond.selects RX7 yX7_cell yX7_cell, Cond.code yX7_cell cX7_cell 4 (some .int), Cond.methodLink RL 130 yX6_copy]
def wsL_law_r48 : List Cond := [Cond.instanceMethod yX6_copy, Cond.selects RX6 yX6_copy yX6_copy, Cond.code yX6_copy cX6_copy 8 (some .int), Cond.fieldLink RX6 265 "StreetTillTen$Sheet" "sort" "I", Cond.methodLink RX6 271 arraycopyName, Cond.methodLink RL 134 yX7_copy, Cond.instanceMethod yX7_copy, Cond.selects RX7 yX7_copy yX7_copy, Cond.code yX7_copy cX7_copy 9 (some .int), Cond.methodLink RL 135 yX6_houses, Cond.instanceMethod yX6_houses, Cond.selects RX6 yX6_houses yX6_houses, Cond.code yX6_houses cX6_houses 9 (some .int), Cond.methodLink RL 139 yX7_houses, Cond.instanceMethod yX7_houses, Cond.selects RX7 yX7_houses yX7_houses, Cond.code yX7_houses cX7_houses 8 (some .int), Cond.constantLong RX7 466 (8), Cond.methodLink RX7 468 yX7_house, Cond.methodLink RL 140 yX6_taken, Cond.instanceMethod yX6_taken, Cond.selects RX6 yX6_taken yX6_taken, Cond.code yX6_taken cX6_taken 3 (some .int), Cond.methodLink RX6 277 yX6_isUnder]
def wsL_law_r49 : List Cond := [Cond.static yX6_isUnder, Cond.code yX6_isUnder cX6_isUnder 4 (some .boolean), Cond.fieldLink RX6 280 "StreetTillTen" "KIND_ABOVE" "[I", Cond.methodLink RL 143 yX7_taken, Cond.instanceMethod yX7_taken, Cond.selects RX7 yX7_taken yX7_taken, Cond.code yX7_taken cX7_taken 4 (some .int), Cond.methodLink RX7 471 yX7_over, Cond.static yX7_over, Cond.code yX7_over cX7_over 1 (some .int)]
def wsL_law : List Cond := (wsL_law_r1 ++ (wsL_law_r2 ++ (wsL_law_r3 ++ (wsL_law_r4 ++ (wsL_law_r5 ++ (wsL_law_r6 ++ (wsL_law_r7 ++ (wsL_law_r8 ++ (wsL_law_r9 ++ (wsL_law_r10 ++ (wsL_law_r11 ++ (wsL_law_r12 ++ (wsL_law_r13 ++ (wsL_law_r14 ++ (wsL_law_r15 ++ (wsL_law_r16 ++ (wsL_law_r17 ++ (wsL_law_r18 ++ (wsL_law_r19 ++ (wsL_law_r20 ++ (wsL_law_r21 ++ (wsL_law_r22 ++ (wsL_law_r23 ++ (wsL_law_r24 ++ (wsL_law_r25 ++ (wsL_law_r26 ++ (wsL_law_r27 ++ (wsL_law_r28 ++ (wsL_law_r29 ++ (wsL_law_r30 ++ (wsL_law_r31 ++ (wsL_law_r32 ++ (wsL_law_r33 ++ (wsL_law_r34 ++ (wsL_law_r35 ++ (wsL_law_r36 ++ (wsL_law_r37 ++ (wsL_law_r38 ++ (wsL_law_r39 ++ (wsL_law_r40 ++ (wsL_law_r41 ++ (wsL_law_r42 ++ (wsL_law_r43 ++ (wsL_law_r44 ++ (wsL_law_r45 ++ (wsL_law_r46 ++ (wsL_law_r47 ++ (wsL_law_r48 ++ wsL_law_r49)))))))))))))))))))))))))))))))))))))))))))))))) ++ wsX60 ++ wsX70 ++ wsX40 ++ wsX00 ++ wsX50 ++ wsX20 ++ wsX10 ++ wsX30 ++ ([] : List Cond)
theorem inlX0 : ∀ w ∈ wsX00, w ∈ wsL_law := fun _ h => List.mem_append_left _ (List.mem_append_left _ (List.mem_append_left _ (List.mem_append_left _ (List.mem_append_left _ (List.mem_append_right _ h)))))
theorem inlX1 : ∀ w ∈ wsX10, w ∈ wsL_law := fun _ h => List.mem_append_left _ (List.mem_append_left _ (List.mem_append_right _ h))
theorem inlX2 : ∀ w ∈ wsX20, w ∈ wsL_law := fun _ h => List.mem_append_left _ (List.mem_append_left _ (List.mem_append_left _ (List.mem_append_right _ h)))
theorem inlX3 : ∀ w ∈ wsX30, w ∈ wsL_law := fun _ h => List.mem_append_left _ (List.mem_append_right _ h)
theorem inlX4 : ∀ w ∈ wsX40, w ∈ wsL_law := fun _ h => List.mem_append_left _ (List.mem_append_left _ (List.mem_append_left _ (List.mem_append_left _ (List.mem_append_left _ (List.mem_append_left _ (List.mem_append_right _ h))))))
theorem inlX5 : ∀ w ∈ wsX50, w ∈ wsL_law := fun _ h => List.mem_append_left _ (List.mem_append_left _ (List.mem_append_left _ (List.mem_append_left _ (List.mem_append_right _ h))))
theorem inlX6 : ∀ w ∈ wsX60, w ∈ wsL_law := fun _ h => List.mem_append_left _ (List.mem_append_left _ (List.mem_append_left _ (List.mem_append_left _ (List.mem_append_left _ (List.mem_append_left _ (List.mem_append_left _ (List.mem_append_left _ (List.mem_append_right _ h))))))))
theorem inlX7 : ∀ w ∈ wsX70, w ∈ wsL_law := fun _ h => List.mem_append_left _ (List.mem_append_left _ (List.mem_append_left _ (List.mem_append_left _ (List.mem_append_left _ (List.mem_append_left _ (List.mem_append_left _ (List.mem_append_right _ h)))))))
abbrev vwCl : List vw_C := [(RX0, TX0, 2), (RX1, TX1, 5), (RX2, TX2, 3), (RX3, TX3, 9), (RX4, TX4, 6), (RX5, TX5, 5), (RX6, TX6, 10), (RX7, TX7, 47)]
